import java.util.LinkedHashMap;
import java.util.List;
import java.util.Map;
import java.util.function.Supplier;
import java.util.function.ToLongFunction;

/** BAD, NO, NONE, FULL: when they are due, which of them first, and that nothing changes by a call that answers them. */
public final class RefusalEdgesTest {
    private static final int BAD = RankedEchoes.BAD, NO = RankedEchoes.NO;
    private static final int FULL = RankedEchoes.FULL, NONE = RankedEchoes.NONE;
    private static final int LEAST = Integer.MIN_VALUE, MOST = Integer.MAX_VALUE;
    private static final int[] FAR = {LEAST, LEAST + 1, -1000000, -65536, 65536, 1000000, MOST - 1, MOST};

    public static void main(String[] args) {
        theNumbers();
        badNumbers();
        badCells();
        cellsAsThereAre();
        badIsFirst();
        noIsAheadOfNone();
        itIsSo();
        nothingChanges();
        askingChangesNothing();
        Due.end();
    }

    private static void theNumbers() {
        Due.sentence("BAD = -1, NO = -2, FULL = -3, NONE = -4");
        Due.is("BAD", RankedEchoes.BAD, -1);
        Due.is("NO", RankedEchoes.NO, -2);
        Due.is("FULL", RankedEchoes.FULL, -3);
        Due.is("NONE", RankedEchoes.NONE, -4);
    }

    private interface Call {
        long on(RankedEchoes x, int number);
    }

    /** The call is BAD for each number outside of these bounds, and for none inside. */
    private static void badOutside(String words, int least, int most, Call call) {
        Due.sentence(words);
        for (int number = -120; number <= 250; number++) {
            checkBad(least, most, call, number);
        }
        for (int number : FAR) {
            checkBad(least, most, call, number);
        }
        checkBad(least, most, call, least);
        checkBad(least, most, call, most);
        checkBad(least, most, call, least == LEAST ? least : least - 1);
        checkBad(least, most, call, most == MOST ? most : most + 1);
    }

    private static void checkBad(int least, int most, Call call, int number) {
        boolean bad = number < least || number > most;
        Due.is("BAD for " + number, call.on(new RankedEchoes(), number) == BAD ? 1 : 0, bad ? 1 : 0);
    }

    private static void badNumbers() {
        badOutside("write: A letter (32 to 126, as in ASCII). BAD", 32, 126, (x, n) -> x.write(n));
        badOutside("power: POWER of a CELL (0 to 99). BAD", 0, 99, (x, n) -> x.power(3, n));
        badOutside("leave: LEFT OUT (is = 1) or not (0). BAD", 0, 1, (x, n) -> x.leave(3, n));
        badOutside("look: REACH (what = 0), .. B (4). BAD", 0, 4, (x, n) -> x.look(n, 1));
        badOutside("look: REACH L (1 to 6). BAD", 1, 6, (x, n) -> x.look(0, n));
        badOutside("look: GAP G (0 to 3). BAD", 0, 3, (x, n) -> x.look(1, n));
        badOutside("look: RANK K (1 to 12). BAD", 1, 12, (x, n) -> x.look(2, n));
        badOutside("look: FACTOR A (1 to 40). BAD", 1, 40, (x, n) -> x.look(3, n));
        badOutside("look: FACTOR B (1 to 40). BAD", 1, 40, (x, n) -> x.look(4, n));
        badOutside("mode: MODE (0 to 2). BAD", 0, 2, (x, n) -> x.mode(n));
        badOutside("slide: the new CELL of POWER v (0 to 99). BAD", 0, 99, (x, n) -> x.slide(n));
        badOutside("cell: POWER (what = 0), .. its BUNCH (6). BAD", 0, 6, (x, n) -> x.cell(5, n));
        badOutside("ranked: AHEAD (side = 0), BEHIND (1), both (2). BAD", 0, 2, (x, n) -> x.ranked(5, n, 1));
        badOutside("ranked: BAD (k below 1); NONE: not so many.", 1, MOST, (x, n) -> x.ranked(5, 2, n));
        badOutside("bunch: BAD (n below -1, too); NONE: not so many.", -1, MOST, (x, n) -> x.bunch(n, 0));
        badOutside("bunch: what is 0 to 2 always (n = -1). BAD", 0, 2, (x, n) -> x.bunch(-1, n));
        badOutside("bunch: what is 0 to 2 always (there is such a one). BAD", 0, 2, (x, n) -> x.bunch(0, n));
        badOutside("bunch: what is 0 to 2 always (there is none). BAD", 0, 2, (x, n) -> x.bunch(30, n));
        badOutside("enough: n ALARMS (0 to 48). BAD", 0, 48, (x, n) -> x.enough(n));
        badOutside("noise: Weight of a POWER (0 to 99). BAD", 0, 99, (x, n) -> x.noise(n));
        badOutside("odds: above (part = 0), below (1). BAD", 0, 1, (x, n) -> x.odds(n));
        badOutside("factor: a (1 to 1000000). BAD", 1, 1000000, (x, n) -> x.factor(n, 1));
        badOutside("factor: b (1 to 1000000). BAD", 1, 1000000, (x, n) -> x.factor(1, n));
        badOutside("drawn: BAD (k below 0); NONE: not so many.", 0, MOST, (x, n) -> x.drawn(n));
        badOutside("count: 0 CELLS, .. 11 letters of THE TEXT. BAD", 0, 11, (x, n) -> x.count(n));
    }

    private static void badCells() {
        badOutside("power: BAD (CELLS such as there are)", 0, 19, (x, n) -> x.power(n, 30));
        badOutside("leave: BAD (CELLS such as there are)", 0, 19, (x, n) -> x.leave(n, 1));
        badOutside("cell: BAD (CELLS such as there are)", 0, 19, (x, n) -> x.cell(n, 0));
        badOutside("cell, what = 6: BAD (CELLS such as there are)", 0, 19, (x, n) -> x.cell(n, 6));
        badOutside("ranked: BAD (CELLS such as there are)", 0, 19, (x, n) -> x.ranked(n, 2, 1));
        badOutside("hides, j = -1: BAD (CELLS such as there are)", 0, 19, (x, n) -> x.hides(n, -1));
        Due.sentence("hides: BAD (alike, too)");
        for (int i = -5; i < 30; i++) {
            for (int j = -5; j < 30; j++) {
                boolean good = i >= 0 && i < 20 && j >= -1 && j < 20 && i != j;
                Due.is("hides " + i + ", " + j, new RankedEchoes().hides(i, j) == BAD ? 1 : 0, good ? 0 : 1);
            }
        }
        for (int n : FAR) {
            Due.is("hides far", new RankedEchoes().hides(n, 0), BAD);
            Due.is("hides one far", new RankedEchoes().hides(0, n), BAD);
            Due.is("hides alike, far", new RankedEchoes().hides(n, n), BAD);
        }
    }

    private static void cellsAsThereAre() {
        Due.sentence("CELLS such as there are: behind LAID they are others, behind SLID as many");
        for (int n : new int[] {1, 2, 19, 20, 21, 47, 48}) {
            RankedEchoes x = Due.laid(Due.cells(n));
            for (int round = 0; round < 2; round++) {
                Due.is("last", x.cell(n - 1, 1), 0);
                Due.is("behind it", x.cell(n, 0), BAD);
                Due.is("power behind it", x.power(n, 1), BAD);
                Due.is("leave behind it", x.leave(n, 1), BAD);
                Due.is("ranked behind it", x.ranked(n, 0, 1), BAD);
                Due.is("hides behind it", x.hides(n, -1), BAD);
                Due.is("hides the one behind it", x.hides(0, n), BAD);
                Due.is("ahead of all", x.cell(-1, 0), BAD);
                x.slide(3);
            }
        }
        RankedEchoes x = Due.laid("cell 1,2,3;");
        x.wipe();
        Due.write(x, "cell 1;");
        x.lay();
        Due.is("a cell that was", x.cell(1, 0), BAD);
        Due.is("a cell that was, ranked", x.ranked(2, 0, 1), BAD);
    }

    /** Each call here is BAD, and NO, NONE or FULL as well. */
    private static void badIsFirst() {
        Due.sentence("Of several the first in this order, whatever the order at a call: BAD ahead of NO");
        RankedEchoes x = Due.laid("cell 0,7,0;");
        x.leave(1, 1);
        Due.is("power of a cell that is none, as it is", x.power(3, 0), BAD);
        Due.is("power that is none", x.power(0, 100), BAD);
        Due.is("leave a cell that is none, as it is", x.leave(3, 0), BAD);
        Due.is("leave as it is none", x.leave(1, 2), BAD);
        Due.is("look that is none", x.look(5, 1), BAD);
        Due.is("hides alike, left out", x.hides(1, 1), BAD);
        Due.is("hides by one left out, one that is none", x.hides(1, 3), BAD);
        Due.is("hides by one left out, -2", x.hides(1, -2), BAD);
        Due.is("hides by one that is none, one left out", x.hides(3, 1), BAD);
        Due.is("hides by -1, one left out", x.hides(-1, 1), BAD);

        Due.sentence("Of several the first in this order, whatever the order at a call: BAD ahead of NONE");
        Due.is("ranked, no such cell, not so many", x.ranked(3, 0, 99), BAD);
        Due.is("ranked, no such side, not so many", x.ranked(0, 3, 99), BAD);
        Due.is("ranked, none are ahead, k of 0", x.ranked(0, 0, 0), BAD);
        Due.is("bunch, not so many, no such part", x.bunch(99, 3), BAD);
        Due.is("bunch, not so many, part -1", x.bunch(MOST, -1), BAD);
        Due.is("cell, no floor, no such cell", x.cell(3, 4), BAD);
        Due.is("cell, no bunch, no such cell", x.cell(-1, 6), BAD);
        RankedEchoes never = Due.laid("cell 1,0;look 1,0,1,1,1;dice 1,1;");
        Due.is("enough can be none", never.enough(0), NONE);
        Due.is("enough for -1", never.enough(-1), BAD);
        Due.is("factor can be none", never.factor(1, 1000000), NONE);
        Due.is("factor 1 by too many", never.factor(1, 1000001), BAD);
        Due.is("factor 0 by 1", never.factor(0, 1), BAD);

        Due.sentence("Of several the first in this order, whatever the order at a call: BAD ahead of FULL");
        RankedEchoes full = Due.written("c".repeat(200));
        for (int letter = -50; letter < 200; letter++) {
            Due.is("write " + letter, full.write(letter), letter >= 32 && letter <= 126 ? FULL : BAD);
        }
    }

    private static void noIsAheadOfNone() {
        Due.sentence("NO: not as things stand. NONE: there is none.");
        RankedEchoes x = new RankedEchoes();
        Due.is("undo of nothing", x.undo(), NO);
        Due.is("lay of nothing", x.lay(), NO);
        Due.is("fault of nothing", x.fault(), NONE);
        x.leave(4, 1);
        Due.is("hides by one left out", x.hides(4, 0), NO);
        Due.is("hides one left out", x.hides(0, 4), NO);
        Due.is("all that one left out hides", x.hides(4, -1), NO);
        Due.is("all that another one hides", x.hides(0, -1), 0);
        Due.is("rank 7 of 6", x.ranked(9, 2, 7), NONE);
        Due.is("a bunch more than there are", x.bunch(3, 0), NONE);
        Due.is("the letter behind the last one", x.drawn(24), NONE);
        Due.is("a cell without a bunch", x.cell(0, 6), NONE);
    }

    private static void itIsSo() {
        Due.sentence("power: NO: it is so.");
        for (int v = 0; v < 100; v += 9) {
            RankedEchoes x = Due.laid("cell " + v + ",5;");
            Due.is("power " + v, x.power(0, v), NO);
            Due.is("another power", x.power(0, (v + 1) % 100), v);
            Due.is("the same again", x.power(0, (v + 1) % 100), NO);
            Due.is("changes", x.count(10), 1);
        }
        Due.sentence("leave: NO: it is so.");
        RankedEchoes x = new RankedEchoes();
        Due.is("in", x.leave(7, 0), NO);
        Due.is("out", x.leave(7, 1), 1);
        Due.is("out again", x.leave(7, 1), NO);
        Due.is("another one in", x.leave(6, 0), NO);
        Due.is("in then", x.leave(7, 0), 0);
        Due.is("in again", x.leave(7, 0), NO);
        Due.is("changes", x.count(10), 2);
        Due.sentence("look: NO: it is so.");
        int[] first = {3, 1, 4, 2, 1};
        for (int what = 0; what < 5; what++) {
            Due.is("look " + what, new RankedEchoes().look(what, first[what]), NO);
            Due.is("look, another one's", new RankedEchoes().look(what, 3), what == 0 ? NO : first[what]);
        }
        Due.sentence("mode: NO: it is so.");
        for (int m = 0; m < 3; m++) {
            x = new RankedEchoes();
            Due.is("mode " + m, x.mode(m), m == 0 ? NO : 0);
            Due.is("again", x.mode(m), NO);
        }
    }

    // ---- nothing changes then

    private static Map<String, Supplier<RankedEchoes>> states() {
        Map<String, Supplier<RankedEchoes>> all = new LinkedHashMap<>();
        all.put("a new one", RankedEchoes::new);
        all.put("one cell", () -> Due.laid("cell 0;dice 1,0;"));
        all.put("48 cells", () -> Due.laid(Due.cells(48) + "look 6,3,12,40,40;mode less;dice 0,16;"));
        all.put("one change", () -> {
            RankedEchoes x = new RankedEchoes();
            x.leave(1, 1);
            return x;
        });
        all.put("more than six changes", () -> {
            RankedEchoes x = Due.laid("cell 9,0,30,1,0,0,4;look 2,0,1,1,1;mode more;dice 1,1;");
            x.power(0, 0);
            x.slide(50);
            x.leave(1, 1);
            x.look(0, 1);
            x.mode(2);
            x.slide(0);
            x.leave(1, 1);
            x.power(1, 1);
            return x;
        });
        all.put("a fault", () -> {
            RankedEchoes x = Due.laid("cell 1,2;mode less;");
            Due.write(x, "look 1,1,1,1;cell 8;");
            x.slide(8);
            return x;
        });
        all.put("full", () -> {
            RankedEchoes x = Due.written("mode more;".repeat(20));
            x.leave(0, 1);
            return x;
        });
        return all;
    }

    private static Map<String, ToLongFunction<RankedEchoes>> calls() {
        Map<String, ToLongFunction<RankedEchoes>> all = new LinkedHashMap<>();
        int[] numbers = {-1000000, -2, -1, 0, 1, 2, 3, 4, 5, 6, 7, 12, 20, 40, 41, 48, 49, 99, 100, 1000001, LEAST, MOST};
        for (int n : numbers) {
            all.put("write " + n, x -> x.write(n));
            all.put("mode " + n, x -> x.mode(n));
            all.put("slide " + n, x -> x.slide(n));
            all.put("enough " + n, x -> x.enough(n));
            all.put("noise " + n, x -> x.noise(n));
            all.put("odds " + n, x -> x.odds(n));
            all.put("drawn " + n, x -> x.drawn(n));
            all.put("count " + n, x -> x.count(n));
            for (int m : numbers) {
                all.put("power " + n + "," + m, x -> x.power(n, m));
                all.put("leave " + n + "," + m, x -> x.leave(n, m));
                all.put("look " + n + "," + m, x -> x.look(n, m));
                all.put("cell " + n + "," + m, x -> x.cell(n, m));
                all.put("hides " + n + "," + m, x -> x.hides(n, m));
                all.put("bunch " + n + "," + m, x -> x.bunch(n, m));
                all.put("factor " + n + "," + m, x -> x.factor(n, m));
                all.put("ranked " + n + "," + m, x -> x.ranked(0, n, m));
                all.put("ranked cell " + n + "," + m, x -> x.ranked(n, 2, m));
            }
        }
        all.put("fault", x -> x.fault());
        all.put("lay", x -> x.lay());
        all.put("undo", x -> x.undo());
        all.put("write a", x -> x.write('a'));
        return all;
    }

    /** All that can be asked, in few calls. */
    private static String told(RankedEchoes x) {
        StringBuilder all = new StringBuilder(Due.powers(x)).append(' ').append(Due.drawing(x)).append(" counts");
        for (int what = 0; what < 12; what++) {
            all.append(' ').append(x.count(what));
        }
        all.append(" noise");
        for (int v = 0; v < 9; v++) {
            all.append(' ').append(x.noise(v));
        }
        all.append(" odds ").append(x.odds(0)).append(" by ").append(x.odds(1)).append(" fault ").append(x.fault());
        return all.append(" enough ").append(x.enough(0)).toString();
    }

    /** What is told behind all that can be undone, and behind the text laid. */
    private static String toldBehindUndo(RankedEchoes x) {
        StringBuilder all = new StringBuilder();
        for (int k = 0; k < 7; k++) {
            all.append(x.undo()).append(' ');
        }
        all.append(told(x)).append(" lay ").append(x.lay());
        return all.append(' ').append(x.count(6)).append(' ').append(x.cell(0, 0)).append(' ').append(x.wipe()).toString();
    }

    private static void nothingChanges() {
        Due.sentence("BAD, NO, NONE, FULL: nothing changes then.");
        Map<String, ToLongFunction<RankedEchoes>> calls = calls();
        int refused = 0;
        for (Map.Entry<String, Supplier<RankedEchoes>> state : states().entrySet()) {
            String told = told(state.getValue().get());
            String toldBehindUndo = toldBehindUndo(state.getValue().get());
            for (Map.Entry<String, ToLongFunction<RankedEchoes>> call : calls.entrySet()) {
                RankedEchoes x = state.getValue().get();
                long answer = call.getValue().applyAsLong(x);
                if (answer >= 0) {
                    continue;
                }
                refused++;
                String what = state.getKey() + ": " + call.getKey() + " answered " + answer;
                Due.same(what, told(x), told);
                x = state.getValue().get();
                Due.is(what + ", and again", call.getValue().applyAsLong(x), answer);
                Due.same(what + ", undone", toldBehindUndo(x), toldBehindUndo);
            }
        }
        Due.holds("many calls are refused: " + refused, refused > 20000);
    }

    private static void askingChangesNothing() {
        Due.sentence("cells, bunches, odds, drawn: what is asked for changes nothing");
        List<String> asking = List.of("cell", "ranked", "hides", "bunch", "enough", "noise", "odds", "factor", "drawn",
            "count", "fault");
        for (Map.Entry<String, Supplier<RankedEchoes>> state : states().entrySet()) {
            String told = told(state.getValue().get());
            String toldBehindUndo = toldBehindUndo(state.getValue().get());
            for (Map.Entry<String, ToLongFunction<RankedEchoes>> call : calls().entrySet()) {
                if (!asking.contains(call.getKey().split(" ")[0])) {
                    continue;
                }
                RankedEchoes x = state.getValue().get();
                long answer = call.getValue().applyAsLong(x);
                Due.same(state.getKey() + ": " + call.getKey(), told(x), told);
                x = state.getValue().get();
                Due.is(call.getKey(), call.getValue().applyAsLong(x), answer);
                Due.is(call.getKey() + " again", call.getValue().applyAsLong(x), answer);
                Due.same(state.getKey() + ": " + call.getKey() + ", undone", toldBehindUndo(x), toldBehindUndo);
            }
        }
    }
}
