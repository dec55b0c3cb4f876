import java.math.BigInteger;
import java.util.Arrays;

/** The edges of noise, odds and the factor for told odds, a sentence of the document after the other. */
public final class OddsEdgesTest {
    private static final int BAD = RankedEchoes.BAD, NONE = RankedEchoes.NONE;
    private static final int LEAST = Integer.MIN_VALUE, MOST = Integer.MAX_VALUE;
    private static final String[] MODES = {"both", "more", "less"};

    public static void main(String[] args) {
        noise();
        everyRow();
        everyRowOfTheClass();
        lowestTerms();
        farEnds();
        rankAsTold();
        whatDoesNotMatter();
        factor();
        factorEdges();
        factorJustSo();
        farProducts();
        Due.end();
    }

    private static RankedEchoes told(String dice, int reach, int rank, int a, int b, int mode) {
        return Due.laid("cell 1;dice " + dice + ";look " + reach + ",0," + rank + "," + a + "," + b + ";mode " + MODES[mode] + ";");
    }

    private static void oddsAre(String what, RankedEchoes x, long above, long below) {
        Due.is(what + ", above", x.odds(0), above);
        Due.is(what + ", below", x.odds(1), below);
    }

    private static void noise() {
        Due.sentence("noise: Weight of a POWER (0 to 99; 0 of those that NOISE does not tell). BAD.");
        RankedEchoes x = Due.laid("cell 99;dice 0,1,2,0,3,4,5,1;");
        int[] weights = {0, 1, 2, 0, 3, 4, 5, 1};
        for (int v = 0; v < 100; v++) {
            Due.is("of 8, weight of " + v, x.noise(v), v < 8 ? weights[v] : 0);
        }
        RankedEchoes two = Due.laid("cell 1;dice 0,16;");
        for (int v = 0; v < 100; v++) {
            Due.is("of 2, weight of " + v, two.noise(v), v == 1 ? 16 : 0);
        }
        Due.is("-1", x.noise(-1), BAD);
        Due.is("100", x.noise(100), BAD);
        Due.is("far below", x.noise(LEAST), BAD);
        Due.is("far above", x.noise(MOST), BAD);
        Due.sentence("NOISE: (4,2,1,1 without");
        int[] without = {4, 2, 1, 1, 0, 0, 0, 0, 0};
        for (int v = 0; v < without.length; v++) {
            Due.is("at first, weight of " + v, new RankedEchoes().noise(v), without[v]);
        }
        RankedEchoes stays = Due.laid("cell 1,2;dice 5,6;");
        stays.slide(1);
        stays.mode(1);
        stays.undo();
        stays.undo();
        Due.is("no change tells another one", stays.noise(1), 6);
    }

    /** Whether the middle one of 2 L + 1 powers alarms, from the words of the document. */
    private static boolean alarms(int[] powers, int reach, int rank, int a, int b, int mode) {
        int floor;
        if (mode == 0) {
            int[] both = new int[2 * reach];
            System.arraycopy(powers, 0, both, 0, reach);
            System.arraycopy(powers, reach + 1, both, reach, reach);
            floor = ranked(both, rank);
        } else {
            int ahead = ranked(Arrays.copyOfRange(powers, 0, reach), rank);
            int behind = ranked(Arrays.copyOfRange(powers, reach + 1, 2 * reach + 1), rank);
            floor = mode == 1 ? Math.max(ahead, behind) : Math.min(ahead, behind);
        }
        return b * powers[reach] > a * floor;
    }

    private static int ranked(int[] powers, int rank) {
        Arrays.sort(powers);
        return powers[Math.min(rank, powers.length) - 1];
    }

    private static long ways(int[] weights, int reach, int rank, int a, int b, int mode) {
        int cells = 2 * reach + 1;
        int[] powers = new int[cells];
        long ways = 0;
        long rows = 1;
        for (int k = 0; k < cells; k++) {
            rows *= weights.length;
        }
        for (long row = 0; row < rows; row++) {
            long rest = row;
            long these = 1;
            for (int k = 0; k < cells; k++) {
                powers[k] = (int) (rest % weights.length);
                rest /= weights.length;
                these *= weights[powers[k]];
            }
            if (these > 0 && alarms(powers, reach, rank, a, b, mode)) {
                ways += these;
            }
        }
        return ways;
    }

    private static void compareWithEveryRow(int[] weights, int reach, int rank, int a, int b, int mode) {
        String dice = Arrays.toString(weights).replaceAll("[\\[\\] ]", "");
        RankedEchoes x = told(dice, reach, rank, a, b, mode);
        BigInteger all = BigInteger.valueOf(Arrays.stream(weights).sum()).pow(2 * reach + 1);
        BigInteger ways = BigInteger.valueOf(ways(weights, reach, rank, a, b, mode));
        BigInteger shared = ways.gcd(all);
        String what = dice + ", reach " + reach + ", rank " + rank + ", " + a + " by " + b + ", " + MODES[mode];
        oddsAre(what, x, ways.divide(shared).longValueExact(), all.divide(shared).longValueExact());
    }

    private static void everyRow() {
        Due.sentence("each by itself such a one as NOISE tells (POWER v by its weight of all weights): how likely it ALARMS by LOOK and MODE");
        int[][] dice = {{1, 1}, {3, 13}};
        for (int reach = 1; reach <= 6; reach++) {
            for (int rank = 1; rank <= 12; rank++) {
                for (int mode = 0; mode < 3; mode++) {
                    compareWithEveryRow(dice[rank % 2], reach, rank, 1, rank % 3 + 1, mode);
                }
            }
        }
        int[][] more = {{4, 2, 1, 1}, {0, 5, 0, 1}, {1, 0, 0, 7}, {0, 0, 16}, {2, 3, 4}};
        int[][] factors = {{1, 1}, {2, 1}, {1, 2}, {3, 2}, {2, 3}, {40, 1}, {1, 40}, {40, 40}, {40, 39}, {39, 40}};
        for (int[] weights : more) {
            for (int[] f : factors) {
                for (int mode = 0; mode < 3; mode++) {
                    for (int rank : new int[] {1, 2, 3, 4, 5, 12}) {
                        compareWithEveryRow(weights, 1, rank, f[0], f[1], mode);
                        compareWithEveryRow(weights, 2, rank, f[0], f[1], mode);
                    }
                }
            }
        }
        compareWithEveryRow(new int[] {1, 2, 3, 4, 3, 1, 1, 1}, 2, 3, 3, 2, 0);
        compareWithEveryRow(new int[] {1, 2, 3, 4, 3, 1, 1, 1}, 2, 1, 3, 2, 1);
        compareWithEveryRow(new int[] {1, 2, 3, 4, 3, 1, 1, 1}, 2, 2, 3, 2, 2);
        compareWithEveryRow(new int[] {1, 0, 0, 0, 0, 0, 0, 15}, 2, 2, 7, 1, 2);
        compareWithEveryRow(new int[] {0, 1, 0, 0, 0, 0, 0, 15}, 2, 2, 7, 1, 2);
        compareWithEveryRow(new int[] {0, 1, 0, 0, 0, 0, 0, 15}, 2, 2, 6, 1, 2);
    }

    /** Lays every row and asks the class itself. */
    private static void everyRowOfTheClass() {
        Due.sentence("the POWERS of one CELL and of L CELLS on each side of it, none LEFT OUT: how likely it ALARMS");
        for (int mode = 0; mode < 3; mode++) {
            for (int rank = 1; rank <= 5; rank++) {
                long ways = 0;
                for (int row = 0; row < 243; row++) {
                    RankedEchoes x = Due.laid("cell " + row % 3 + "," + row / 3 % 3 + "," + row / 9 % 3 + "," + row / 27 % 3
                        + "," + row / 81 + ";dice 1,1,1;look 2,0," + rank + ",3,2;mode " + MODES[mode] + ";");
                    ways += x.cell(2, 5);
                }
                RankedEchoes x = told("1,1,1", 2, rank, 3, 2, mode);
                Due.is(MODES[mode] + ", rank " + rank, ways * x.odds(1), 243 * x.odds(0));
            }
        }
    }

    private static void lowestTerms() {
        Due.sentence("ODDS of a FALSE ALARM in lowest terms (0 by 1): above (part = 0), below (1). BAD.");
        oddsAre("half of the weights", told("2,2", 1, 1, 1, 1, 0), 3, 8);
        oddsAre("all of them 8", told("8,8", 1, 1, 1, 1, 0), 3, 8);
        oddsAre("thirds", told("3,3,3", 1, 1, 1, 1, 0), 13, 27);
        for (int mode = 0; mode < 3; mode++) {
            oddsAre("never, one power", told("0,16", 6, 12, 40, 40, mode), 0, 1);
            oddsAre("never, 0 alone", told("1,0", 1, 1, 1, 40, mode), 0, 1);
            oddsAre("never, 0 alone, all weights", told("16,0", 6, 12, 1, 40, mode), 0, 1);
            oddsAre("never, by A", told("0,0,0,0,0,0,8,8", 6, 1, 40, 1, mode), 0, 1);
            oddsAre("always, by B", told("0,16", 6, 12, 39, 40, mode), 1, 1);
            oddsAre("always, of several", told("0,1,1,1,1,1,1,1", 6, 12, 1, 40, mode), 1, 1);
            oddsAre("always, one weight", told("0,1", 1, 1, 1, 2, mode), 1, 1);
        }
        RankedEchoes x = new RankedEchoes();
        int[] wrong = {-1, 2, 3, LEAST, MOST};
        for (int part : wrong) {
            Due.is("part " + part, x.odds(part), BAD);
        }
    }

    private static long power(long of, int by) {
        return BigInteger.valueOf(of).pow(by).longValueExact();
    }

    private static void farEnds() {
        Due.sentence("ODDS exactly: 16 weights, 13 CELLS");
        long all = power(16, 13);
        // A 1 over twelve cells of 0.
        oddsAre("1 of 16 each is high", told("15,1", 6, 12, 40, 1, 0), power(15, 12), all);
        oddsAre("15 of 16 each is high", told("1,15", 6, 12, 40, 1, 0), 15, all);
        oddsAre("one low one is enough", told("1,15", 6, 1, 40, 1, 0), 15 * (power(16, 12) - power(15, 12)), all);
        long low = power(16, 6) - power(15, 6);
        oddsAre("one low one on both sides", told("1,15", 6, 1, 40, 1, 1), 15 * low * low, all);
        oddsAre("one low one on either side", told("1,15", 6, 1, 40, 1, 2), 15 * (power(16, 12) - power(15, 12)), all);
        oddsAre("all low on both sides", told("15,1", 6, 6, 40, 1, 1), power(15, 12), all);
        oddsAre("all low on either side", told("15,1", 6, 6, 40, 1, 2),
            power(16, 12) - (power(16, 6) - power(15, 6)) * (power(16, 6) - power(15, 6)), all);
        oddsAre("all the highest but for none", told("0,0,0,0,0,0,1,15", 6, 12, 1, 1, 0), 15, all);
        oddsAre("15 of 15 weights", told("14,1", 6, 12, 1, 1, 0), power(14, 12), power(15, 13));
    }

    private static void rankAsTold() {
        Due.sentence("(RANK K as told; of fewer than K CELLS it is the greatest, as above)");
        for (int reach = 1; reach <= 6; reach++) {
            for (int mode = 0; mode < 3; mode++) {
                int cells = mode == 0 ? 2 * reach : reach;
                RankedEchoes greatest = told("3,2,1", reach, cells, 1, 1, mode);
                for (int rank = 1; rank <= 12; rank++) {
                    RankedEchoes x = told("3,2,1", reach, rank, 1, 1, mode);
                    boolean same = x.odds(0) == greatest.odds(0) && x.odds(1) == greatest.odds(1);
                    Due.is("reach " + reach + ", rank " + rank + ", " + MODES[mode], same ? 1 : 0, rank >= cells ? 1 : 0);
                }
            }
        }
    }

    private static void whatDoesNotMatter() {
        Due.sentence("ODDS: L CELLS on each side, none LEFT OUT, by LOOK and MODE: nothing else matters");
        RankedEchoes x = new RankedEchoes();
        long above = x.odds(0);
        long below = x.odds(1);
        for (int gap = 0; gap <= 3; gap++) {
            x.look(1, gap);
            oddsAre("gap " + gap, x, above, below);
        }
        x.leave(3, 1);
        oddsAre("one left out", x, above, below);
        x.slide(99);
        x.power(0, 50);
        oddsAre("other powers", x, above, below);
        oddsAre("one cell", Due.laid("cell 0;"), above, below);
        Due.is("factor, one cell", Due.laid("cell 0;").factor(1, 10), x.factor(1, 10));
        x.look(4, 2);
        Due.holds("B does", x.odds(0) * below != above * x.odds(1));
        x.undo();
        oddsAre("undone", x, above, below);
        x.mode(2);
        Due.holds("MODE does", x.odds(0) * below != above * x.odds(1));
        x.undo();
        x.look(0, 2);
        Due.holds("REACH does", x.odds(0) * below != above * x.odds(1));
        x.undo();
        x.look(2, 5);
        Due.holds("RANK does", x.odds(0) * below != above * x.odds(1));
        x.undo();
        x.look(3, 1);
        Due.holds("A does", x.odds(0) * below != above * x.odds(1));
    }

    private static boolean noMore(RankedEchoes x, long a, long b) {
        BigInteger one = BigInteger.valueOf(x.odds(0)).multiply(BigInteger.valueOf(b));
        return one.compareTo(BigInteger.valueOf(x.odds(1)).multiply(BigInteger.valueOf(a))) <= 0;
    }

    private static int leastFactor(String dice, int reach, int rank, int b, int mode, int above, int below) {
        for (int a = 1; a <= 40; a++) {
            if (noMore(told(dice, reach, rank, a, b, mode), above, below)) {
                return a;
            }
        }
        return NONE;
    }

    private static void factor() {
        Due.sentence("FACTOR for a by b: the least A (1 to 40), all else as it is, by which ODDS are no more than a by b");
        int[][] asked = {{1, 2}, {1, 3}, {1, 10}, {1, 1000}, {999999, 1000000}, {1, 1000000}, {3, 8}, {13, 27}, {2, 1}};
        String[] dice = {"4,2,1,1", "1,1,1,1,1,1,1,1", "0,3,2,1", "0,5,0,0,0,0,0,1"};
        for (String weights : dice) {
            for (int mode = 0; mode < 3; mode++) {
                for (int b : new int[] {1, 7, 40}) {
                    for (int[] ask : asked) {
                        String what = weights + ", B " + b + ", " + MODES[mode] + ", " + ask[0] + " by " + ask[1];
                        Due.is(what, told(weights, 2, 3, 17, b, mode).factor(ask[0], ask[1]),
                            leastFactor(weights, 2, 3, b, mode, ask[0], ask[1]));
                    }
                }
            }
        }
        RankedEchoes x = new RankedEchoes();
        int before = x.factor(1, 5);
        x.look(3, 40);
        Due.is("A does not matter", x.factor(1, 5), before);
        Due.is("A stays", x.count(4), 40);
        Due.is("it is no change", x.count(10), 1);
    }

    private static void factorEdges() {
        Due.sentence("FACTOR for a by b (1 to 1000000 each). BAD; NONE.");
        RankedEchoes x = new RankedEchoes();
        Due.is("1 by 1", x.factor(1, 1), 1);
        Due.is("most by most", x.factor(1000000, 1000000), 1);
        Due.is("most by 1", x.factor(1000000, 1), 1);
        Due.is("1 by most", x.factor(1, 1000000), NONE);
        int[] wrong = {0, -1, 1000001, LEAST, MOST};
        for (int n : wrong) {
            Due.is(n + " by 1", x.factor(n, 1), BAD);
            Due.is("1 by " + n, x.factor(1, n), BAD);
            Due.is(n + " by itself", x.factor(n, n), BAD);
        }
        Due.is("A = 40 just", told("0,1", 1, 1, 1, 40, 0).factor(1, 1000000), 40);
        Due.is("A = 39", told("0,1", 1, 1, 1, 39, 0).factor(1, 1000000), 39);
        Due.is("A = 1 just", told("0,1", 1, 1, 40, 1, 0).factor(1, 1000000), 1);
        Due.is("none by 40", told("0,1,1", 1, 1, 1, 40, 0).factor(1, 1000000), NONE);
        Due.is("by 1 for what is sure", told("0,1", 1, 1, 1, 40, 0).factor(1, 1), 1);
        Due.is("by 1 for what is more than sure", told("0,1", 1, 1, 1, 40, 0).factor(2, 1), 1);
        Due.is("by 40 for what is nearly sure", told("0,1", 1, 1, 1, 40, 0).factor(999999, 1000000), 40);
        Due.is("0 by 1 is no more than any", told("1,0", 6, 1, 1, 40, 2).factor(1, 1000000), 1);
    }

    private static void factorJustSo() {
        Due.sentence("ODDS are no more than a by b: just as likely is no more");
        for (int mode = 0; mode < 3; mode++) {
            for (int a = 1; a <= 8; a++) {
                RankedEchoes x = told("2,1,3,0,2", 2, 2, a, 2, mode);
                int above = (int) x.odds(0);
                int below = (int) x.odds(1);
                Due.holds("in bounds", above >= 1 && below <= 1000000);
                int least = leastFactor("2,1,3,0,2", 2, 2, 2, mode, above, below);
                Due.holds("no more than A itself", least <= a);
                Due.is("just so", x.factor(above, below), least);
                int less = leastFactor("2,1,3,0,2", 2, 2, 2, mode, above, below + 1);
                Due.holds("a bit less: more than A, or none", less == NONE || less > a);
                Due.is("a bit less", x.factor(above, below + 1), less);
                Due.is("a bit more", x.factor(above + 1, below), leastFactor("2,1,3,0,2", 2, 2, 2, mode, above + 1, below));
            }
        }
    }

    private static void farProducts() {
        Due.sentence("FACTOR, exactly: ODDS of 16 to the 13th by millionths");
        int[] rank = {12, 1, 6, 3};
        String[] dice = {"15,1", "1,15", "8,4,2,2", "0,9,0,0,0,0,0,7"};
        for (int k = 0; k < dice.length; k++) {
            for (int mode = 0; mode < 3; mode++) {
                for (int a : new int[] {1, 3, 7}) {
                    RankedEchoes x = told(dice[k], 6, rank[k], a, 1, mode);
                    long millionths = BigInteger.valueOf(x.odds(0)).multiply(BigInteger.valueOf(1000000))
                        .divide(BigInteger.valueOf(x.odds(1))).longValueExact();
                    for (long near = Math.max(1, millionths - 1); near <= Math.min(1000000, millionths + 2); near++) {
                        Due.is(dice[k] + ", " + MODES[mode] + ", " + near + " millionths", x.factor((int) near, 1000000),
                            leastFactor(dice[k], 6, rank[k], 1, mode, (int) near, 1000000));
                    }
                }
            }
        }
        RankedEchoes half = told("8,8", 6, 12, 1, 1, 0);
        oddsAre("1 by 2 to the 13th", half, 1, 8192);
        Due.is("just so", half.factor(1, 8192), 1);
        Due.is("a bit less", half.factor(1, 8193), NONE);
        Due.is("just so by 122 times as many", half.factor(122, 122 * 8192), 1);
        Due.is("a bit less by 122 times as many", half.factor(122, 122 * 8192 + 1), NONE);
    }
}
