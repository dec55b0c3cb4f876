/** The edges of windows, a sentence of the document after the other: floors, alarms, bunches, what hides, what is drawn. */
public final class WindowEdgesTest {
    private static final int BAD = RankedEchoes.BAD, NO = RankedEchoes.NO, NONE = RankedEchoes.NONE;
    private static final int MOST = Integer.MAX_VALUE;
    private static final String[] MODES = {"both", "more", "less"};

    public static void main(String[] args) {
        aheadAndBehind();
        leftOutOfWindows();
        ranked();
        floorOfBoth();
        floorOfMoreAndLess();
        theOneAlone();
        fewerThanRank();
        noCells();
        cellAnswers();
        alarms();
        bunches();
        hides();
        hidesByRank();
        hidesLeftOut();
        enough();
        drawn();
        count();
        Due.end();
    }

    private static String look(int... numbers) {
        StringBuilder all = new StringBuilder("look ");
        for (int number : numbers) {
            all.append(all.length() == 5 ? "" : ",").append(number);
        }
        return all.append(";").toString();
    }

    private static RankedEchoes row(String powers, int reach, int gap, int rank, int a, int b) {
        return Due.laid("cell " + powers + ";" + look(reach, gap, rank, a, b));
    }

    private static void floors(String what, RankedEchoes x, int... want) {
        for (int i = 0; i < want.length; i++) {
            Due.is(what + ", floor of " + i, x.cell(i, 4), want[i]);
        }
        Due.is(what + ": as many cells", x.count(0), want.length);
    }

    private static void aheadAndBehind() {
        Due.sentence("AHEAD of a CELL i are CELLS i - G - L to i - G - 1, BEHIND it i + G + 1 to i + G + L, as far as there are such");
        for (int n : new int[] {1, 2, 3, 7, 20, 48}) {
            for (int reach = 1; reach <= 6; reach++) {
                for (int gap = 0; gap <= 3; gap++) {
                    RankedEchoes x = Due.laid(Due.cells(n) + look(reach, gap, 1, 1, 1));
                    for (int i = 0; i < n; i++) {
                        String what = n + " cells, reach " + reach + ", gap " + gap + ", cell " + i;
                        int ahead = Math.min(reach, Math.max(0, i - gap));
                        int behind = Math.min(reach, Math.max(0, n - 1 - i - gap));
                        Due.is(what + ", ahead", x.cell(i, 2), ahead);
                        Due.is(what + ", behind", x.cell(i, 3), behind);
                    }
                }
            }
        }
        RankedEchoes x = row("1,2,3,4,5,6,7,8,9,10,11", 2, 1, 1, 1, 1);
        Due.is("the farthest ahead of 5", x.ranked(5, 0, 1), 3);
        Due.is("the next ahead of 5", x.ranked(5, 0, 2), 4);
        Due.is("the next behind 5", x.ranked(5, 1, 1), 8);
        Due.is("the farthest behind 5", x.ranked(5, 1, 2), 9);
        x = row("1,2,3,4,5,6,7,8,9,10,11,12,13,14,15,16,17,18,19", 6, 3, 12, 1, 1);
        Due.is("the farthest of all ahead of 9", x.ranked(9, 0, 1), 1);
        Due.is("the farthest of all behind 9", x.ranked(9, 1, 6), 19);
        Due.is("the next ahead", x.ranked(9, 0, 6), 6);
        Due.is("the next behind", x.ranked(9, 1, 1), 14);
    }

    private static void leftOutOfWindows() {
        Due.sentence("AHEAD, BEHIND .. as far as there are such, without those LEFT OUT");
        RankedEchoes x = row("1,2,3,4,5,6,7,8,9", 2, 1, 1, 1, 1);
        x.leave(2, 1);
        int[] ahead = {0, 0, 1, 2, 1, 1, 2, 2, 2};
        int[] behind = {1, 2, 2, 2, 2, 2, 1, 0, 0};
        for (int i = 0; i < 9; i++) {
            Due.is("ahead of " + i, x.cell(i, 2), ahead[i]);
            Due.is("behind " + i, x.cell(i, 3), behind[i]);
        }
        Due.is("no other one comes for it", x.ranked(4, 0, 1), 2);
        Due.is("nor a second", x.ranked(4, 0, 2), NONE);
        x.leave(1, 1);
        Due.is("none ahead of 4", x.cell(4, 2), 0);
        Due.is("none is ranked", x.ranked(4, 0, 1), NONE);
        Due.is("a cell left out has some itself", x.cell(2, 3), 2);
        x.leave(1, 0);
        x.leave(2, 0);
        Due.is("both ahead again", x.cell(4, 2), 2);
    }

    private static void ranked() {
        Due.sentence("ranked: the POWER of rank k (1 the least); like ones each counted");
        RankedEchoes x = row("7,3,7,3,9,50,3,9,0,99,7", 6, 0, 1, 1, 1);
        int[][] want = {{3, 3, 7, 7, 9}, {0, 3, 7, 9, 99}, {0, 3, 3, 3, 7, 7, 7, 9, 9, 99}};
        for (int side = 0; side < 3; side++) {
            for (int k = 1; k <= 14; k++) {
                Due.is("side " + side + ", rank " + k, x.ranked(5, side, k),
                    k <= want[side].length ? want[side][k - 1] : NONE);
            }
        }
        Due.sentence("ranked: BAD (k below 1); NONE: not so many.");
        RankedEchoes most = row("1,2,3,4,5,6,50,7,8,9,10,11,12", 6, 0, 1, 1, 1);
        Due.is("the twelfth of twelve", most.ranked(6, 2, 12), 12);
        Due.is("the thirteenth", most.ranked(6, 2, 13), NONE);
        Due.is("the last one that can be asked for", most.ranked(6, 2, MOST), NONE);
        Due.is("the sixth ahead", most.ranked(6, 0, 6), 6);
        Due.is("the seventh ahead", most.ranked(6, 0, 7), NONE);
        Due.is("the sixth behind", most.ranked(6, 1, 6), 12);
        Due.is("the seventh behind", most.ranked(6, 1, 7), NONE);
        Due.is("rank 0", most.ranked(6, 2, 0), BAD);
        Due.is("the first one's first ahead", most.ranked(0, 0, 1), NONE);
        Due.is("the last one's first behind", most.ranked(12, 1, 1), NONE);
        RankedEchoes one = Due.laid("cell 5;");
        for (int side = 0; side < 3; side++) {
            Due.is("of one cell alone", one.ranked(0, side, 1), NONE);
        }
        Due.is("the rank of LOOK and the mode do not matter", Due.laid("cell 1,2,3;look 1,0,12,1,1;mode less;").ranked(1, 2, 1), 1);
    }

    private static void floorOfBoth() {
        Due.sentence("by BOTH that of RANK K (the K-th of them, the least first, like ones each counted) of AHEAD and BEHIND together");
        int[] sorted = {0, 3, 3, 3, 7, 7, 7, 9, 9, 99, 99, 99};
        for (int rank = 1; rank <= 12; rank++) {
            RankedEchoes x = row("7,3,7,3,9,50,3,9,0,99,7", 6, 0, rank, 1, 1);
            Due.is("rank " + rank, x.cell(5, 4), sorted[rank - 1]);
        }
        floors("all alike", row("4,4,4,4,4", 2, 0, 2, 1, 1), 4, 4, 4, 4, 4);
        floors("rank 1", row("5,1,9,2,8", 1, 0, 1, 1, 1), 1, 5, 1, 8, 2);
        floors("rank 2", row("5,1,9,2,8", 1, 0, 2, 1, 1), 1, 9, 2, 9, 2);
        floors("0 is a floor", row("0,0,1", 1, 0, 1, 1, 1), 0, 0, 0);
    }

    private static void floorOfMoreAndLess() {
        Due.sentence("by MORE, LESS the greater, the lesser one of that of RANK K of AHEAD and that of BEHIND");
        int[] ahead = {2, 5, 9, 9, 9, 9, 9, 9, 9, 9, 9, 9};
        int[] behind = {1, 7, 8, 8, 8, 8, 8, 8, 8, 8, 8, 8};
        for (int rank = 1; rank <= 12; rank++) {
            RankedEchoes x = row("5,9,2,30,7,8,1", 3, 0, rank, 1, 1);
            x.mode(1);
            Due.is("more, rank " + rank, x.cell(3, 4), Math.max(ahead[rank - 1], behind[rank - 1]));
            x.mode(2);
            Due.is("less, rank " + rank, x.cell(3, 4), Math.min(ahead[rank - 1], behind[rank - 1]));
        }
        RankedEchoes alike = row("6,0,6", 1, 0, 1, 1, 1);
        alike.mode(1);
        Due.is("both alike, more", alike.cell(1, 4), 6);
        alike.mode(2);
        Due.is("both alike, less", alike.cell(1, 4), 6);
        RankedEchoes uneven = row("1,2,3,0,50", 3, 0, 2, 1, 1);
        uneven.mode(2);
        Due.is("fewer than K on one side only, less", uneven.cell(3, 4), 2);
        uneven.mode(1);
        Due.is("fewer than K on one side only, more", uneven.cell(3, 4), 50);
        uneven.power(4, 0);
        Due.is("a side of 0 counts, more", uneven.cell(3, 4), 2);
        uneven.mode(2);
        Due.is("a side of 0 counts, less", uneven.cell(3, 4), 0);
    }

    private static void theOneAlone() {
        Due.sentence("(the one alone, if the other one has no CELLS)");
        for (int mode = 1; mode <= 2; mode++) {
            RankedEchoes x = row("5,9,2,30", 1, 1, 1, 1, 1);
            x.mode(mode);
            floors(MODES[mode], x, 2, 30, 5, 9);
            x = row("5,9,2", 1, 0, 1, 1, 1);
            x.mode(mode);
            x.leave(0, 1);
            Due.is(MODES[mode] + ", the ones ahead are left out", x.cell(1, 4), 2);
            x.leave(0, 0);
            x.leave(2, 1);
            Due.is(MODES[mode] + ", the ones behind are left out", x.cell(1, 4), 5);
            x.leave(0, 1);
            Due.is(MODES[mode] + ", all are left out", x.cell(1, 4), NONE);
            x.leave(2, 0);
            x.power(2, 0);
            Due.is(MODES[mode] + ", 0 alone", x.cell(1, 4), 0);
        }
    }

    private static void fewerThanRank() {
        Due.sentence("Of fewer than K CELLS it is the greatest");
        for (int rank = 1; rank <= 12; rank++) {
            RankedEchoes x = row("1,3,2,4", 2, 0, rank, 1, 1);
            Due.is("of 2, rank " + rank, x.cell(0, 4), rank == 1 ? 2 : 3);
            Due.is("of 3, rank " + rank, x.cell(1, 4), rank == 1 ? 1 : rank == 2 ? 2 : 4);
            x.leave(3, 1);
            Due.is("of 2 with one left out, rank " + rank, x.cell(1, 4), rank == 1 ? 1 : 2);
            x.mode(1);
            Due.is("of 2 and none, rank " + rank, x.cell(0, 4), rank == 1 ? 2 : 3);
        }
        RankedEchoes whole = row("1,2,3,4,5,6,50,7,8,9,10,11,12", 6, 0, 12, 1, 1);
        Due.is("12 of 12", whole.cell(6, 4), 12);
        whole.leave(12, 1);
        Due.is("12 of 11", whole.cell(6, 4), 11);
        whole.leave(12, 0);
        whole.look(2, 11);
        Due.is("11 of 12", whole.cell(6, 4), 11);
    }

    private static void noCells() {
        Due.sentence("without any CELLS there is none");
        for (String mode : MODES) {
            RankedEchoes one = Due.laid("cell 99;look 6,0,1,1,40;mode " + mode + ";");
            Due.is(mode + ", one cell", one.cell(0, 4), NONE);
            Due.is(mode + ", it does not alarm", one.cell(0, 5), 0);
            Due.is(mode + ", it has no bunch", one.cell(0, 6), NONE);
            Due.is(mode + ", it hides none", one.hides(0, -1), 0);
            Due.is(mode + ", none alarms", one.count(7), 0);
            Due.is(mode + ", enough", one.enough(0), 1);
            RankedEchoes gap = Due.laid("cell 9,9,9,9;look 6,2,1,1,40;mode " + mode + ";");
            floors(mode + ", by the gap", gap, 9, NONE, NONE, 9);
            Due.drawn(mode, gap, "^..^=2 2");
            gap.leave(0, 1);
            floors(mode + ", the only one is left out", gap, 9, NONE, NONE, NONE);
            Due.drawn(mode, gap, "x...=0 0");
        }
    }

    private static void cellAnswers() {
        Due.sentence("cell: POWER (what = 0), 1 if LEFT OUT (1), how many are AHEAD (2), BEHIND (3), FLOOR (4; NONE), 1 if it ALARMS (5), its BUNCH (6; NONE)");
        RankedEchoes x = row("1,9,1,0,9,9", 1, 0, 1, 1, 1);
        x.leave(2, 1);
        int[][] want = {{1, 0, 0, 1, 9, 0, NONE}, {9, 0, 1, 0, 1, 1, 0}, {1, 1, 1, 1, 0, 0, NONE},
            {0, 0, 0, 1, 9, 0, NONE}, {9, 0, 1, 1, 0, 1, 1}, {9, 0, 1, 0, 9, 0, NONE}};
        for (int i = 0; i < want.length; i++) {
            for (int what = 0; what < 7; what++) {
                Due.is("cell " + i + ", what " + what, x.cell(i, what), want[i][what]);
            }
            Due.is("what -1", x.cell(i, -1), BAD);
            Due.is("what 7", x.cell(i, 7), BAD);
        }
    }

    private static void alarmIs(int power, int floor, int a, int b, int want) {
        RankedEchoes x = row(power + "," + floor, 1, 0, 1, a, b);
        Due.is(b + " * " + power + " over " + a + " * " + floor, x.cell(0, 5), want);
        Due.is("drawn so", x.drawn(0) == '.' ? 0 : 1, want);
    }

    private static void alarms() {
        Due.sentence("B times its POWER is more than A times its FLOOR");
        int[][] edges = {{1, 1, 1, 1, 0}, {2, 1, 1, 1, 1}, {0, 0, 1, 1, 0}, {0, 0, 1, 40, 0}, {1, 0, 40, 1, 1},
            {40, 1, 40, 1, 0}, {41, 1, 40, 1, 1}, {1, 40, 1, 40, 0}, {1, 39, 1, 40, 1}, {1, 41, 1, 40, 0},
            {99, 99, 40, 40, 0}, {99, 98, 40, 40, 1}, {98, 99, 40, 40, 0}, {99, 99, 39, 40, 1}, {99, 99, 40, 39, 0},
            {3, 2, 3, 2, 0}, {4, 2, 3, 2, 1}, {10, 15, 2, 3, 0}, {11, 15, 2, 3, 1}, {0, 99, 1, 40, 0}, {99, 0, 40, 1, 1}};
        for (int[] e : edges) {
            alarmIs(e[0], e[1], e[2], e[3], e[4]);
        }
        Due.sentence("A CELL ALARMS, if it is not LEFT OUT, has a FLOOR");
        RankedEchoes x = row("9,1", 1, 0, 1, 1, 1);
        Due.is("alarms", x.cell(0, 5), 1);
        x.leave(0, 1);
        Due.is("left out", x.cell(0, 5), 0);
        Due.is("it has a floor still", x.cell(0, 4), 1);
        x.leave(0, 0);
        x.leave(1, 1);
        Due.is("no floor", x.cell(0, 4), NONE);
        Due.is("no alarm", x.cell(0, 5), 0);
        x.power(0, 0);
        Due.is("0 without a floor", x.cell(0, 5), 0);
    }

    private static void bunchIs(RankedEchoes x, int n, int first, int last, int peak) {
        Due.is("first of " + n, x.bunch(n, 0), first);
        Due.is("last of " + n, x.bunch(n, 1), last);
        Due.is("peak of " + n, x.bunch(n, 2), peak);
        for (int i = 0; i < x.count(0); i++) {
            if (i >= first && i <= last) {
                Due.is("its bunch", x.cell(i, 6), n);
            } else {
                Due.holds("not its bunch", x.cell(i, 6) != n);
            }
        }
    }

    private static void bunches() {
        Due.sentence("A BUNCH is a row of CELLS side by side that ALARM, as long as can be");
        RankedEchoes all = row("9,9,9,9,9,9,9,9,9,9", 1, 0, 1, 1, 2);
        bunchIs(all, 0, 0, 9, 0);
        Due.is("one", all.bunch(-1, 0), 1);
        RankedEchoes ends = row("9,9,0,0,0,9,9", 3, 1, 1, 1, 1);
        bunchIs(ends, 0, 0, 1, 0);
        bunchIs(ends, 1, 5, 6, 5);
        Due.is("two", ends.bunch(-1, 0), 2);
        all.leave(4, 1);
        Due.is("one left out parts them", all.bunch(-1, 0), 2);
        bunchIs(all, 0, 0, 3, 0);
        bunchIs(all, 1, 5, 9, 5);
        all.leave(4, 0);
        all.power(4, 0);
        Due.drawn("one that does not alarm parts them", all, "^!!!.^!!!!=9 2");
        all.leave(0, 1);
        all.leave(9, 1);
        bunchIs(all, 0, 1, 3, 1);
        bunchIs(all, 1, 5, 8, 5);

        Due.sentence("its PEAK is the CELL of the most POWER in it, the first of several");
        RankedEchoes peaks = row("7,8,9,9,8,0,0,0,0", 6, 3, 1, 1, 1);
        Due.drawn("the third and the fourth are alike", peaks, "!!^!!....=5 1");
        Due.is("peak", peaks.bunch(0, 2), 2);
        peaks.power(4, 10);
        Due.is("the last one", peaks.bunch(0, 2), 4);
        peaks.power(0, 10);
        Due.is("the first one and the last one", peaks.bunch(0, 2), 0);
        peaks.leave(0, 1);
        Due.is("the first one is left out", peaks.bunch(0, 2), 4);
        Due.is("first then", peaks.bunch(0, 0), 1);

        Due.sentence("BUNCHES: how many (n = -1); of the n-th (0 the first) .. NONE: not so many.");
        RankedEchoes none = row("9", 1, 0, 1, 1, 1);
        RankedEchoes most = Due.laid("cell 1" + ",0,1".repeat(23) + ",0;look 1,0,1,1,1;");
        for (int what = 0; what < 3; what++) {
            Due.is("of none", none.bunch(-1, what), 0);
            Due.is("the first of none", none.bunch(0, what), NONE);
            Due.is("24", most.bunch(-1, what), 24);
            Due.is("the 24th", most.bunch(23, what), 46);
            Due.is("the 25th", most.bunch(24, what), NONE);
            Due.is("the 48th", most.bunch(47, what), NONE);
            Due.is("the 49th", most.bunch(48, what), NONE);
            Due.is("the last one that can be asked for", most.bunch(MOST, what), NONE);
        }
        Due.is("what 3 with n = -1", most.bunch(-1, 3), BAD);
        Due.is("n = -2", most.bunch(-2, 0), BAD);
    }

    private static void hides() {
        Due.sentence("CELL i HIDES CELL j, if j does not ALARM, and would, were i LEFT OUT");
        for (int gap = 0; gap <= 3; gap++) {
            for (int reach = 1; reach <= 6; reach++) {
                // 48 cells alike, one of them great: it hides those in whose windows it is, and no others.
                RankedEchoes x = Due.laid("cell 2" + ",2".repeat(23) + ",90" + ",2".repeat(23) + ";" + look(reach, gap, 12, 1, 2));
                for (int j = 0; j < 48; j++) {
                    int far = Math.abs(24 - j);
                    int want = far > gap && far <= gap + reach ? 1 : 0;
                    Due.is("reach " + reach + ", gap " + gap + ", j " + j, x.hides(24, j), j == 24 ? BAD : want);
                }
                Due.is("all of them", x.hides(24, -1), 2 * reach);
                Due.is("another one hides none", x.hides(20, -1), 0);
            }
        }
        RankedEchoes x = row("1,9,60,9,1", 1, 0, 2, 2, 1);
        Due.is("one that alarms is not hidden", x.hides(1, 2), 0);
        Due.is("it hides both", x.hides(2, -1), 2);
        Due.is("the answer for one", x.hides(2, 1), 1);
        Due.is("it is not left out by that", x.cell(2, 1), 0);
        RankedEchoes two = row("9,60", 1, 0, 1, 1, 1);
        Due.is("no floor were it left out: no alarm", two.hides(1, 0), 0);
        Due.is("none in all", two.hides(1, -1), 0);
        RankedEchoes one = row("9", 1, 0, 1, 1, 1);
        Due.is("one cell alone", one.hides(0, -1), 0);
        Due.is("itself", one.hides(0, 0), BAD);
        RankedEchoes edge = row("4,60,2", 1, 0, 1, 2, 1);
        edge.leave(0, 1);
        Due.is("no other window", edge.hides(1, 2), 0);
        RankedEchoes first = row("9,60,1", 2, 0, 12, 1, 1);
        Due.is("the first cell of all", first.hides(1, 0), 1);
        Due.is("the first cell of all, counted", first.hides(1, -1), 1);
        RankedEchoes last = row("1,60,9", 2, 0, 12, 1, 1);
        Due.is("the last cell of all", last.hides(1, 2), 1);
        Due.is("the last cell of all, counted", last.hides(1, -1), 1);
        RankedEchoes alike = row("2,4,60", 2, 0, 2, 2, 1);
        Due.is("2 * 2 is not less than 4", alike.hides(2, 1), 0);
        alike.power(1, 5);
        Due.is("5 is more", alike.hides(2, 1), 1);
    }

    private static void hidesByRank() {
        Due.sentence("HIDES: of fewer than K CELLS it is the greatest, and one fewer by the one LEFT OUT");
        for (int rank = 1; rank <= 12; rank++) {
            RankedEchoes x = row("1,2,5,60,3", 3, 0, rank, 1, 1);
            // Of 1, 2, 60, 3 the greatest goes: only where it was the floor is there less in its place.
            Due.is("rank " + rank + " of 4", x.hides(3, 2), rank >= 4 ? 1 : 0);
            Due.is("rank " + rank + ", by a low one", x.hides(0, 2), 0);
        }
        Due.sentence("HIDES by MORE, LESS: (the one alone, if the other one has no CELLS)");
        RankedEchoes more = row("1,5,50", 1, 0, 1, 1, 1);
        more.mode(1);
        Due.is("more: the lesser side stays", more.hides(2, 1), 1);
        Due.is("more: the greater side stays", more.hides(0, 1), 0);
        RankedEchoes less = row("9,5,50", 1, 0, 1, 1, 1);
        less.mode(2);
        Due.is("less: the lesser side goes", less.hides(0, 1), 0);
        Due.is("less: the greater side goes", less.hides(2, 1), 0);
        RankedEchoes side = row("3,9,5,50", 2, 0, 2, 1, 1);
        side.mode(2);
        Due.is("less: the side has one fewer", side.hides(1, 2), 1);
        Due.is("less: the other side", side.hides(3, 2), 0);
    }

    private static void hidesLeftOut() {
        Due.sentence("(neither being LEFT OUT); NO: one of them is LEFT OUT (i alone, if j is -1)");
        RankedEchoes x = row("1,9,60,9,1", 1, 0, 2, 2, 1);
        x.leave(1, 1);
        Due.is("i", x.hides(1, 3), NO);
        Due.is("j", x.hides(2, 1), NO);
        Due.is("i alone", x.hides(1, -1), NO);
        Due.is("another i: one left out is not counted", x.hides(2, -1), 1);
        x.leave(2, 1);
        Due.is("both", x.hides(1, 2), NO);
        Due.is("both, the other way", x.hides(2, 1), NO);
        Due.is("both, alike", x.hides(2, 2), BAD);
        Due.is("neither", x.hides(3, 4), 0);
        Due.is("how many are left out", x.count(9), 2);
        x.leave(2, 0);
        x.leave(1, 0);
        Due.is("in again", x.hides(2, -1), 2);
        // With 1 left out, 60 hides 9; 1 hides none, for 60 stays.
        RankedEchoes third = row("40,9,60,2", 2, 0, 12, 2, 1);
        Due.is("two of them hide it", third.hides(2, 1), 0);
        third.leave(0, 1);
        Due.is("one of them is left out already", third.hides(2, 1), 1);
    }

    private static void enough() {
        Due.sentence("ENOUGH for n ALARMS: the least A (1 to 40), all else as it is, by which no more than n CELLS ALARM");
        RankedEchoes x = new RankedEchoes();
        for (int n = 0; n <= 48; n++) {
            int a = x.enough(n);
            for (int other = 1; other <= 40; other++) {
                RankedEchoes y = new RankedEchoes();
                y.look(3, other);
                Due.is("n " + n + ", A " + other, y.count(7) <= n ? 1 : 0, other >= a ? 1 : 0);
            }
        }
        Due.is("A stays", x.count(4), 2);
        Due.is("for as many as alarm by A", x.enough(5), 2);
        Due.is("A itself does not matter", look3(40).enough(5), 2);
        RankedEchoes b = new RankedEchoes();
        b.look(4, 2);
        Due.is("B does", b.enough(5), 4);
        RankedEchoes row48 = Due.laid("cell 9" + ",9".repeat(47) + ";look 1,0,1,1,20;");
        Due.is("48 alarm by A = 19", row48.enough(48), 1);
        Due.is("none of 48 by A = 20", row48.enough(47), 20);
        Due.is("none of 48 by A = 20, for 0", row48.enough(0), 20);

        Due.sentence("enough: (0 to 48). BAD; NONE.");
        RankedEchoes edge = row("40,1", 1, 0, 1, 7, 1);
        Due.is("by A = 40 just", edge.enough(0), 40);
        edge.power(0, 41);
        Due.is("by A = 41 it would be", edge.enough(0), NONE);
        Due.is("for one", edge.enough(1), 1);
        edge.power(0, 1);
        Due.is("alike", edge.enough(0), 1);
        edge.power(1, 0);
        Due.is("over 0", edge.enough(0), NONE);
        edge.leave(0, 1);
        Due.is("left out", edge.enough(0), 1);
        Due.is("-1", edge.enough(-1), BAD);
        Due.is("48", edge.enough(48), 1);
        Due.is("49", edge.enough(49), BAD);
        Due.is("48 of one cell", Due.laid("cell 1;").enough(48), 1);
        RankedEchoes modes = row("30,10,2", 1, 0, 1, 1, 1);
        Due.is("both, for one", modes.enough(1), 3);
        Due.is("both", modes.enough(0), 5);
        modes.mode(1);
        Due.is("more", modes.enough(0), 3);
        modes.mode(2);
        Due.is("less", modes.enough(0), 5);
    }

    private static RankedEchoes look3(int a) {
        RankedEchoes x = new RankedEchoes();
        x.look(3, a);
        return x;
    }

    private static void drawn() {
        Due.sentence("DRAWN: x LEFT OUT, ^ a PEAK, ! another one that ALARMS, . any other");
        RankedEchoes x = row("9,9,0,0,0,9,9", 3, 1, 1, 1, 1);
        x.leave(3, 1);
        Due.drawn("all four", x, "^!.x.^!=4 2");
        x.leave(0, 1);
        Due.drawn("a peak left out", x, "x^.x.^!=3 2");

        Due.sentence("then =, how many ALARM, a blank, how many BUNCHES (numbers without 0 ahead)");
        Due.drawn("none", Due.laid("cell 0;"), ".=0 0");
        for (int n : new int[] {1, 2, 9, 10, 11, 19, 20, 24}) {
            String powers = "1" + ",0,1".repeat(n - 1) + ",0";
            Due.drawn(n + " bunches", Due.laid("cell " + powers + ";look 1,0,1,1,1;"), "^.".repeat(n) + "=" + n + " " + n);
        }
        for (int n : new int[] {2, 9, 10, 11, 47, 48}) {
            Due.drawn(n + " alarms", Due.laid("cell 9" + ",9".repeat(n - 1) + ";look 1,0,1,1,2;"),
                "^" + "!".repeat(n - 1) + "=" + n + " 1");
        }

        Due.sentence("drawn: The k-th letter (k 0 or more). BAD (k below 0); NONE: not so many.");
        RankedEchoes most = Due.laid("cell 1" + ",0,1".repeat(23) + ",0;look 1,0,1,1,1;");
        Due.is("first", most.drawn(0), '^');
        Due.is("last cell", most.drawn(47), '.');
        Due.is("=", most.drawn(48), '=');
        Due.is("2", most.drawn(49), '2');
        Due.is("4", most.drawn(50), '4');
        Due.is("blank", most.drawn(51), ' ');
        Due.is("2 again", most.drawn(52), '2');
        Due.is("last letter", most.drawn(53), '4');
        Due.is("behind it", most.drawn(54), NONE);
        Due.is("far behind it", most.drawn(MOST), NONE);
        Due.is("ahead of it", most.drawn(-1), BAD);
        RankedEchoes one = Due.laid("cell 0;");
        int[] letters = {'.', '=', '0', ' ', '0', NONE, NONE};
        for (int k = 0; k < letters.length; k++) {
            Due.is("of one cell, letter " + k, one.drawn(k), letters[k]);
        }
    }

    private static void count() {
        Due.sentence("count: 0 CELLS, 1 REACH, 2 GAP, 3 RANK, 4 A, 5 B, 6 MODE, 7 that ALARM, 8 BUNCHES, 9 LEFT OUT, 10 changes that can be UNDONE, 11 letters of THE TEXT. BAD.");
        RankedEchoes x = Due.laid("cell 9,9,0,0,0,9,9;look 3,1,12,2,5;mode less;");
        x.look(2, 1);
        x.look(3, 4);
        x.leave(3, 1);
        int[] want = {7, 3, 1, 1, 4, 5, 2, 4, 2, 1, 3, 45};
        for (int what = 0; what < 12; what++) {
            Due.is("count " + what, x.count(what), want[what]);
        }
        Due.is("-1", x.count(-1), BAD);
        Due.is("12", x.count(12), BAD);
    }
}
