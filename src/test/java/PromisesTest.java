/** The promises of the document, one by one: ordinary inputs, the edges, wrong inputs. */
public final class PromisesTest {
    private static final int BAD = RankedEchoes.BAD, NO = RankedEchoes.NO;
    private static final int FULL = RankedEchoes.FULL, NONE = RankedEchoes.NONE;
    private static final int LEAST = Integer.MIN_VALUE, MOST = Integer.MAX_VALUE;

    public static void main(String[] args) {
        newObject();
        write();
        wipe();
        fault();
        faultOfNumbers();
        lay();
        power();
        leave();
        look();
        mode();
        slide();
        undo();
        cell();
        floors();
        ranked();
        hides();
        bunch();
        enough();
        noise();
        odds();
        factor();
        drawn();
        count();
        Due.end();
    }

    private static void newObject() {
        RankedEchoes x = new RankedEchoes();
        int[] powers = {3, 1, 4, 1, 5, 40, 6, 2, 3, 1, 9, 7, 50, 48, 5, 3, 2, 1, 6, 20};
        int[] counts = {20, 3, 1, 4, 2, 1, 0, 5, 3, 0, 0, 0};
        for (int i = 0; i < powers.length; i++) {
            Due.is("1: power of cell " + i, x.cell(i, 0), powers[i]);
            Due.is("1: left out " + i, x.cell(i, 1), 0);
        }
        for (int what = 0; what < counts.length; what++) {
            Due.is("1: count " + what, x.count(what), counts[what]);
        }
        Due.is("1: undo", x.undo(), NO);
        Due.is("1: lay of no text", x.lay(), NO);
        Due.is("1: noise", x.noise(0), 4);
    }

    private static void write() {
        RankedEchoes x = new RankedEchoes();
        int[] wrong = {31, 127, 0, -1, LEAST, MOST, 10};
        for (int letter : wrong) {
            Due.is("2: write " + letter, x.write(letter), BAD);
        }
        Due.is("2: write blank", x.write(32), 1);
        Due.is("2: write ~", x.write(126), 2);
        for (int n = 3; n <= 200; n++) {
            Due.is("2: write x", x.write('x'), n);
        }
        Due.is("2: write into what is full", x.write('x'), FULL);
        Due.is("2: BAD ahead of FULL", x.write(127), BAD);
        Due.is("2: length stays", x.count(11), 200);
    }

    private static void wipe() {
        RankedEchoes x = new RankedEchoes();
        Due.is("3: wipe nothing", x.wipe(), 0);
        Due.write(x, "cell 1;x");
        Due.is("3: wipe", x.wipe(), 8);
        Due.is("3: wiped", x.count(11), 0);
        Due.is("3: wipe again", x.wipe(), 0);
        Due.is("3: no fault stays", x.fault(), NONE);
        Due.write(x, "cell 5;");
        Due.is("3: lay behind wipe", x.lay(), 1);
    }

    private static void faultIs(String text, int want) {
        RankedEchoes x = new RankedEchoes();
        Due.write(x, text);
        Due.is("4: fault of \"" + text + "\"", x.fault(), want);
        Due.is("4: fault told again", x.fault(), want);
        Due.is("4: text stays", x.count(11), text.length());
        Due.is("4: row stays", x.count(0), 20);
        Due.is("4: look stays", x.count(1), 3);
        Due.is("4: mode stays", x.count(6), 0);
        Due.is("4: noise stays", x.noise(3), 1);
        Due.is("4: lay of \"" + text + "\"", x.lay() == NO ? 1 : 0, want != NONE || !text.contains("cell") ? 1 : 0);
    }

    private static void fault() {
        faultIs("", NONE);
        faultIs("cell 1;", NONE);
        faultIs("cell 00,07,99;", NONE);
        faultIs("cell 1;;", 7);
        faultIs("cell 1; cell 2;", 7);
        faultIs("cell 1;c", 7);
        faultIs("cell 1;cell 2", 7);
        faultIs("cell 1;cell 2;cell 3", 14);
        faultIs(" cell 1;", 0);
        faultIs("cell  1;", 0);
        faultIs("cell 1 ;", 0);
        faultIs("cell 1, 2;", 0);
        faultIs("cell 1,,2;", 0);
        faultIs("cell ,1;", 0);
        faultIs("cell 1,;", 0);
        faultIs("cell 123;", 0);
        faultIs("cell -1;", 0);
        faultIs("cell a;", 0);
        faultIs("cell ;", 0);
        faultIs("cell;", 0);
        faultIs("cel;", 0);
        faultIs(";", 0);
        faultIs("Cell 1;", 0);
        faultIs("cells 1;", 0);
        faultIs("cell,1;", 0);
        faultIs("mode both;", NONE);
        faultIs("mode more;mode less;cell 1;", NONE);
        faultIs("mode none;", 0);
        faultIs("mode bot;", 0);
        faultIs("mode bothh;", 0);
        faultIs("mode both ;", 0);
        faultIs("mode 1;", 0);
        faultIs("mode ;", 0);
        faultIs("mode both", 0);
        faultIs("cell 1;mode More;", 7);
        faultIs("more;", 0);
        faultIs("cell 1;cell;look 3,1,4,2,1;", 7);
    }

    private static void faultOfNumbers() {
        faultIs("look 1,0,1,1,1;", NONE);
        faultIs("look 6,3,12,40,40;cell 1;", NONE);
        faultIs("look 06,03,12,40,40;cell 1;", NONE);
        faultIs("look 0,0,1,1,1;", 0);
        faultIs("look 7,0,1,1,1;", 0);
        faultIs("look 1,4,1,1,1;", 0);
        faultIs("look 1,0,0,1,1;", 0);
        faultIs("look 1,0,13,1,1;", 0);
        faultIs("look 1,0,1,0,1;", 0);
        faultIs("look 1,0,1,41,1;", 0);
        faultIs("look 1,0,1,1,0;", 0);
        faultIs("look 1,0,1,1,41;", 0);
        faultIs("look 1,0,1,1;", 0);
        faultIs("look 1,0,1,1,1,1;", 0);
        faultIs("look ;", 0);
        faultIs("dice 1,0;cell 1;", NONE);
        faultIs("dice 0,16;cell 1;", NONE);
        faultIs("dice 2,2,2,2,2,2,2,2;cell 1;", NONE);
        faultIs("dice 3,2,2,2,2,2,2,2;", 0);
        faultIs("dice 1;", 0);
        faultIs("dice 1,1,1,1,1,1,1,1,1;", 0);
        faultIs("dice 1,1,1,1,1,1,1,1,0;", 0);
        faultIs("dice 0,0;", 0);
        faultIs("dice 17,0;", 0);
        faultIs("dice 16,1;", 0);
        faultIs("dice 99,99;", 0);
        faultIs(Due.cells(48), NONE);
        faultIs(Due.cells(49), 0);
        faultIs(Due.cells(48) + "mode less;" + "look 1,1,1,1,1;", NONE);
        faultIs(Due.cells(47) + "cell 1;", NONE);
        faultIs(Due.cells(47) + "cell 1,2;", 99);
        faultIs(Due.cells(24) + Due.cells(24), NONE);
        faultIs(Due.cells(24) + Due.cells(24) + "cell 9;", 106);
        faultIs(Due.cells(24) + "mode less;" + Due.cells(25), 63);
    }

    private static void lay() {
        RankedEchoes x = new RankedEchoes();
        x.leave(3, 1);
        x.mode(2);
        Due.write(x, "mode more;look 1,2,3,4,5;dice 0,5;");
        Due.is("5: lay without cells", x.lay(), NO);
        Due.is("5: nothing changed", x.count(6), 2);
        Due.is("5: left out stays", x.count(9), 1);
        Due.is("5: changes stay", x.count(10), 2);
        Due.write(x, "cell 7;look 6,3,12,40,39;mode less;dice 1,2,3;cell 8,09;");
        Due.is("5: lay", x.lay(), 3);
        int[] counts = {3, 6, 3, 12, 40, 39, 2};
        for (int what = 0; what < counts.length; what++) {
            Due.is("5: count " + what, x.count(what), counts[what]);
        }
        Due.is("5: cell 0", x.cell(0, 0), 7);
        Due.is("5: cell 2", x.cell(2, 0), 9);
        Due.is("5: none left out", x.count(9), 0);
        Due.is("5: nothing to undo", x.undo(), NO);
        Due.is("5: noise", x.noise(2), 3);
        Due.holds("5: text stays", x.count(11) == 90 && x.lay() == 3);
        x.wipe();
        Due.write(x, "cell 1;");
        Due.is("5: lay of cells alone", x.lay(), 1);
        int[] without = {1, 3, 1, 4, 2, 1, 0};
        for (int what = 0; what < without.length; what++) {
            Due.is("5: without, count " + what, x.count(what), without[what]);
        }
        int[] weights = {4, 2, 1, 1, 0, 0, 0, 0, 0};
        for (int v = 0; v < weights.length; v++) {
            Due.is("5: without, noise " + v, x.noise(v), weights[v]);
        }
        Due.write(x, "dice 1,1,1,1,1,1,1,1;dice 3,4;");
        x.lay();
        Due.is("5: a shorter dice behind a longer one", x.noise(2), 0);
        Due.write(x, "cell");
        Due.is("5: lay of a fault", x.lay(), NO);
        Due.is("5: noise stays", x.noise(1), 4);
    }

    private static void power() {
        RankedEchoes x = new RankedEchoes();
        int[][] wrong = {{-1, 1}, {20, 1}, {LEAST, 1}, {MOST, 1}, {0, -1}, {0, 100}, {0, LEAST}, {0, MOST}, {20, 100}};
        for (int[] w : wrong) {
            Due.is("6: power", x.power(w[0], w[1]), BAD);
        }
        Due.is("6: it is so", x.power(0, 3), NO);
        Due.is("6: no change", x.count(10), 0);
        Due.is("6: to 99", x.power(0, 99), 3);
        Due.is("6: is 99", x.cell(0, 0), 99);
        Due.is("6: to 0", x.power(0, 0), 99);
        Due.is("6: last one", x.power(19, 19), 20);
        Due.is("6: changes", x.count(10), 3);
        x.leave(5, 1);
        Due.is("6: of one left out", x.power(5, 7), 40);
        Due.is("6: left out still", x.cell(5, 1), 1);
    }

    private static void leave() {
        RankedEchoes x = new RankedEchoes();
        int[][] wrong = {{-1, 1}, {20, 0}, {LEAST, 1}, {MOST, 1}, {0, -1}, {0, 2}, {0, MOST}};
        for (int[] w : wrong) {
            Due.is("7: leave", x.leave(w[0], w[1]), BAD);
        }
        Due.is("7: not left out yet", x.leave(4, 0), NO);
        Due.is("7: leave 4", x.leave(4, 1), 1);
        Due.is("7: again", x.leave(4, 1), NO);
        Due.is("7: leave 19", x.leave(19, 1), 2);
        Due.is("7: take 4 in", x.leave(4, 0), 1);
        Due.is("7: changes", x.count(10), 3);
        Due.is("7: 19 is out", x.cell(19, 1), 1);
        Due.is("7: 4 is in", x.cell(4, 1), 0);
    }

    private static void look() {
        int[] least = {1, 0, 1, 1, 1};
        int[] most = {6, 3, 12, 40, 40};
        int[] was = {3, 1, 4, 2, 1};
        for (int what = 0; what < 5; what++) {
            RankedEchoes x = new RankedEchoes();
            Due.is("8: below", x.look(what, least[what] - 1), BAD);
            Due.is("8: above", x.look(what, most[what] + 1), BAD);
            Due.is("8: far below", x.look(what, LEAST), BAD);
            Due.is("8: far above", x.look(what, MOST), BAD);
            Due.is("8: it is so", x.look(what, was[what]), NO);
            Due.is("8: most", x.look(what, most[what]), was[what]);
            Due.is("8: least", x.look(what, least[what]), most[what]);
            Due.is("8: told", x.count(what + 1), least[what]);
            Due.is("8: changes", x.count(10), 2);
            for (int other = 0; other < 5; other++) {
                Due.is("8: others", x.count(other + 1), other == what ? least[what] : was[other]);
            }
        }
        RankedEchoes x = new RankedEchoes();
        Due.is("8: what -1", x.look(-1, 1), BAD);
        Due.is("8: what 5", x.look(5, 1), BAD);
        Due.is("8: what least", x.look(LEAST, 1), BAD);
        Due.is("8: what most", x.look(MOST, 1), BAD);
    }

    private static void mode() {
        RankedEchoes x = new RankedEchoes();
        int[] wrong = {-1, 3, LEAST, MOST};
        for (int m : wrong) {
            Due.is("9: mode", x.mode(m), BAD);
        }
        Due.is("9: it is so", x.mode(0), NO);
        Due.is("9: to 2", x.mode(2), 0);
        Due.is("9: again", x.mode(2), NO);
        Due.is("9: to 1", x.mode(1), 2);
        Due.is("9: to 0", x.mode(0), 1);
        Due.is("9: changes", x.count(10), 3);
    }

    private static void slide() {
        RankedEchoes x = Due.laid("cell 1,2,3;");
        int[] wrong = {-1, 100, LEAST, MOST};
        for (int v : wrong) {
            Due.is("10: slide", x.slide(v), BAD);
        }
        x.leave(1, 1);
        Due.is("10: slide 0", x.slide(0), 1);
        Due.is("10: left out went along", x.cell(0, 1), 1);
        Due.is("10: only one", x.count(9), 1);
        Due.is("10: cell 0", x.cell(0, 0), 2);
        Due.is("10: cell 1", x.cell(1, 0), 3);
        Due.is("10: cell 2", x.cell(2, 0), 0);
        Due.is("10: as many", x.count(0), 3);
        x.leave(2, 1);
        Due.is("10: slide 99", x.slide(99), 2);
        Due.is("10: the new one is not left out", x.cell(2, 1), 0);
        Due.is("10: the old one still is", x.cell(1, 1), 1);
        Due.is("10: changes", x.count(10), 4);
        RankedEchoes one = Due.laid("cell 8;");
        Due.is("10: slide of one", one.slide(8), 8);
        Due.is("10: a change even so", one.count(10), 1);
    }

    private static void undo() {
        RankedEchoes x = new RankedEchoes();
        x.leave(0, 1);
        x.slide(9);
        x.mode(1);
        x.look(2, 1);
        x.power(0, 77);
        Due.is("11: changes", x.count(10), 5);
        Due.is("11: undo power", x.undo(), 4);
        Due.is("11: power is back", x.cell(0, 0), 1);
        Due.is("11: undo look", x.undo(), 3);
        Due.is("11: look is back", x.count(3), 4);
        Due.is("11: undo mode", x.undo(), 2);
        Due.is("11: mode is back", x.count(6), 0);
        Due.is("11: undo slide", x.undo(), 1);
        Due.is("11: first is back", x.cell(0, 0), 3);
        Due.is("11: and left out", x.cell(0, 1), 1);
        Due.is("11: last is back", x.cell(19, 0), 20);
        Due.is("11: undo leave", x.undo(), 0);
        Due.is("11: is in", x.cell(0, 1), 0);
        Due.is("11: no more", x.undo(), NO);
        Due.is("11: undone is no change", x.count(10), 0);
        for (int v = 50; v < 59; v++) {
            x.power(2, v);
            Due.is("11: six at most", x.count(10), Math.min(6, v - 49));
        }
        for (int k = 5; k >= 0; k--) {
            Due.is("11: undo", x.undo(), k);
            Due.is("11: back", x.cell(2, 0), 52 + k);
        }
        Due.is("11: the seventh", x.undo(), NO);
        Due.is("11: power stays", x.cell(2, 0), 52);
        slidesUndone();
    }

    private static void slidesUndone() {
        RankedEchoes x = Due.laid("cell 1,2,3,4;");
        x.leave(3, 1);
        for (int v = 60; v < 65; v++) {
            x.slide(v);
        }
        for (int k = 0; k < 5; k++) {
            x.undo();
        }
        for (int i = 0; i < 4; i++) {
            Due.is("11: slid back", x.cell(i, 0), i + 1);
            Due.is("11: left out slid back", x.cell(i, 1), i == 3 ? 1 : 0);
        }
        Due.is("11: one more", x.count(10), 1);
        x.lay();
        Due.is("11: behind lay", x.undo(), NO);
    }

    private static void cell() {
        RankedEchoes x = new RankedEchoes();
        int[][] wrong = {{-1, 0}, {20, 0}, {LEAST, 0}, {MOST, 0}, {0, -1}, {0, 7}, {0, LEAST}, {0, MOST}};
        for (int[] w : wrong) {
            Due.is("12: cell", x.cell(w[0], w[1]), BAD);
        }
        int[] ahead = {0, 0, 1, 2, 3, 3};
        for (int i = 0; i < ahead.length; i++) {
            Due.is("12: ahead of " + i, x.cell(i, 2), ahead[i]);
            Due.is("12: behind " + (19 - i), x.cell(19 - i, 3), ahead[i]);
        }
        x.leave(8, 1);
        Due.is("12: one is left out ahead", x.cell(10, 2), 2);
        Due.is("12: one is left out behind", x.cell(6, 3), 2);
        Due.is("12: in the gap", x.cell(9, 2), 3);
        Due.is("12: its own", x.cell(8, 2), 3);
        Due.is("12: it has a floor", x.cell(8, 4), 9);
        x.power(8, 99);
        Due.is("12: it does not alarm", x.cell(8, 5), 0);
        Due.is("12: it has no bunch", x.cell(8, 6), NONE);
        x.leave(8, 0);
        Due.is("12: it alarms", x.cell(8, 5), 1);
        Due.is("12: it has a bunch", x.cell(8, 6), 1);
        Due.is("12: bunch 2", x.cell(12, 6), 2);
        RankedEchoes one = Due.laid("cell 8;");
        Due.is("12: no floor", one.cell(0, 4), NONE);
        Due.is("12: no alarm", one.cell(0, 5), 0);
        Due.is("12: no bunch", one.cell(0, 6), NONE);
    }

    private static void floors() {
        RankedEchoes x = Due.laid("cell 5,9,2,30,7,7,1;look 3,0,2,2,1;");
        Due.is("12: both", x.cell(3, 4), 2);
        x.mode(1);
        Due.is("12: more", x.cell(3, 4), 7);
        Due.is("12: more, one side alone", x.cell(0, 4), 9);
        Due.is("12: more, fewer than the rank", x.cell(1, 4), 7);
        x.mode(2);
        Due.is("12: less", x.cell(3, 4), 5);
        Due.is("12: less, one side alone", x.cell(6, 4), 7);
        x.look(2, 12);
        Due.is("12: the greatest of each side, the lesser", x.cell(3, 4), 7);
        x.mode(1);
        Due.is("12: the greatest of each side, the greater", x.cell(3, 4), 9);
        x.mode(0);
        Due.is("12: the greatest of both", x.cell(4, 4), 30);
        // 3 * 10 is not more than 2 * 15, but 3 * 11 is.
        RankedEchoes edge = Due.laid("cell 10,15;look 1,0,1,2,3;");
        Due.is("12: alike is no alarm", edge.cell(0, 5), 0);
        edge.power(0, 11);
        Due.is("12: one more is", edge.cell(0, 5), 1);
        RankedEchoes zero = Due.laid("cell 0,0,1;look 1,0,1,40,1;");
        Due.is("12: 0 over 0", zero.cell(0, 5), 0);
        Due.is("12: 1 over 0", zero.cell(2, 5), 1);
        zero.leave(1, 1);
        Due.is("12: all neighbours left out", zero.cell(2, 4), NONE);
        Due.is("12: no alarm then", zero.cell(2, 5), 0);
    }

    private static void ranked() {
        RankedEchoes x = Due.laid("cell 5,9,2,30,7,7,1;look 3,0,2,2,1;");
        int[][] wrong = {{-1, 0, 1}, {7, 0, 1}, {LEAST, 0, 1}, {MOST, 0, 1}, {0, -1, 1}, {0, 3, 1}, {0, MOST, 1},
            {0, 0, 0}, {0, 0, -1}, {0, 0, LEAST}};
        for (int[] w : wrong) {
            Due.is("13: ranked", x.ranked(w[0], w[1], w[2]), BAD);
        }
        int[][] want = {{2, 5, 9}, {1, 7, 7}, {1, 2, 5, 7, 7, 9}};
        for (int side = 0; side < 3; side++) {
            for (int k = 1; k < 14; k++) {
                Due.is("13: side " + side + " rank " + k, x.ranked(3, side, k),
                    k <= want[side].length ? want[side][k - 1] : NONE);
            }
            Due.is("13: far rank", x.ranked(3, side, MOST), NONE);
        }
        x.leave(5, 1);
        Due.is("13: one is left out", x.ranked(3, 1, 3), NONE);
        x.leave(3, 1);
        Due.is("13: of one left out", x.ranked(3, 1, 2), 7);
        Due.is("13: none ahead", x.ranked(0, 0, 1), NONE);
        x.look(0, 6);
        Due.is("13: six behind", x.ranked(0, 1, 4), 9);
    }

    private static void hides() {
        // Cell 2 lifts the floor of 1 and 3, by the greatest of four.
        RankedEchoes x = Due.laid("cell 1,20,50,20,1,1;look 2,0,12,2,1;");
        int[][] wrong = {{-1, 0}, {6, 0}, {0, 6}, {0, -2}, {2, 2}, {LEAST, 0}, {0, MOST}, {0, LEAST}, {-1, -1}, {6, -1}};
        for (int[] w : wrong) {
            Due.is("14: hides", x.hides(w[0], w[1]), BAD);
        }
        Due.is("14: 3 is hidden by 2, but by 1 too", x.hides(2, 3), 0);
        x.leave(1, 1);
        Due.is("14: 3 is hidden by 2 alone", x.hides(2, 3), 1);
        Due.is("14: one in all", x.hides(2, -1), 1);
        Due.is("14: 3 hides none", x.hides(3, -1), 0);
        Due.is("14: an alarm is not hidden", x.hides(3, 2), 0);
        Due.is("14: out of reach", x.hides(5, 2), 0);
        Due.is("14: by one left out", x.hides(1, 3), NO);
        Due.is("14: of one left out", x.hides(2, 1), NO);
        Due.is("14: all of one left out", x.hides(1, -1), NO);
        Due.is("14: BAD ahead of NO", x.hides(1, 1), BAD);
        Due.is("14: BAD ahead of NO, too", x.hides(1, 6), BAD);
        Due.is("14: nothing is left out by it", x.count(9), 1);
        Due.is("14: no change", x.count(10), 1);
        // With its only neighbour left out there is no floor, hence no alarm.
        RankedEchoes two = Due.laid("cell 9,50;look 1,0,1,1,1;");
        Due.is("14: no floor left", two.hides(1, 0), 0);
        // The side of the great one is left out, so that the other one alone counts.
        RankedEchoes side = Due.laid("cell 1,5,50;look 1,0,1,1,1;mode more;");
        Due.is("14: the other side alone", side.hides(2, 1), 1);
        RankedEchoes several = Due.laid("cell 9,9,60,9,9;look 1,1,12,1,1;");
        Due.is("14: those in the gap are not hidden", several.hides(2, -1), 0);
        RankedEchoes many = Due.laid("cell 1,9,60,9,1;look 2,0,4,2,1;mode more;");
        Due.is("14: hidden by one another, too", many.hides(2, -1), 0);
        many.look(0, 1);
        Due.is("14: two in all by reach 1", many.hides(2, -1), 2);
        Due.is("14: the one ahead", many.hides(2, 1), 1);
        Due.is("14: the one behind", many.hides(2, 3), 1);
    }

    private static void bunch() {
        RankedEchoes x = Due.laid("cell 9,0,9,9,10,10,0,0,0,9,9;look 1,3,1,1,1;");
        x.leave(1, 1);
        int[][] wrong = {{-2, 0}, {LEAST, 0}, {0, -1}, {0, 3}, {-1, 3}, {-1, -1}, {99, 3}, {MOST, MOST}};
        for (int[] w : wrong) {
            Due.is("15: bunch", x.bunch(w[0], w[1]), BAD);
        }
        // By gap 3 the floor is the cell four ahead or behind, the lesser of both.
        Due.drawn("15: as drawn", x, ".x!!^!....^=5 2");
        for (int what = 0; what < 3; what++) {
            Due.is("15: how many", x.bunch(-1, what), 2);
            Due.is("15: not so many", x.bunch(2, what), NONE);
            Due.is("15: far from so many", x.bunch(MOST, what), NONE);
        }
        Due.is("15: first", x.bunch(0, 0), 2);
        Due.is("15: last", x.bunch(0, 1), 5);
        Due.is("15: the first of two peaks", x.bunch(0, 2), 4);
        Due.is("15: second's first", x.bunch(1, 0), 10);
        Due.is("15: second's last", x.bunch(1, 1), 10);
        x.leave(4, 1);
        Due.is("15: one left out parts them", x.bunch(-1, 0), 3);
        RankedEchoes none = Due.laid("cell 9;");
        Due.is("15: none", none.bunch(-1, 2), 0);
        Due.is("15: none is first", none.bunch(0, 0), NONE);
        RankedEchoes most = Due.laid("cell 1,0,1,0,1,0,1,0,1,0,1,0,1,0,1,0,1,0,1,0,1,0,1,0,"
            + "1,0,1,0,1,0,1,0,1,0,1,0,1,0,1,0,1,0,1,0,1,0,1,0;look 1,0,1,1,1;");
        Due.is("15: as many as can be", most.bunch(-1, 0), 24);
        Due.is("15: the last one's peak", most.bunch(23, 2), 46);
    }

    private static void enough() {
        RankedEchoes x = new RankedEchoes();
        int[] wrong = {-1, 49, LEAST, MOST};
        for (int n : wrong) {
            Due.is("16: enough", x.enough(n), BAD);
        }
        Due.is("16: for none", x.enough(0), 20);
        Due.is("16: for 48", x.enough(48), 1);
        Due.is("16: A stays", x.count(4), 2);
        Due.is("16: no change", x.count(10), 0);
        RankedEchoes edge = Due.laid("cell 40,1;look 1,0,1,7,1;");
        Due.is("16: A of 40", edge.enough(0), 40);
        Due.is("16: one alarms", edge.enough(1), 1);
        edge.power(0, 41);
        Due.is("16: none, A of 40 is not enough", edge.enough(0), NONE);
        edge.look(4, 40);
        Due.is("16: by B", edge.enough(0), NONE);
        Due.is("16: for one by B", edge.enough(1), 1);
        RankedEchoes zero = Due.laid("cell 1,0;look 1,0,1,40,1;");
        Due.is("16: over 0", zero.enough(0), NONE);
        zero.leave(0, 1);
        Due.is("16: left out", zero.enough(0), 1);
    }

    private static void noise() {
        RankedEchoes x = Due.laid("cell 1;dice 0,1,2,0,3,4,5,1;");
        int[] weights = {0, 1, 2, 0, 3, 4, 5, 1, 0, 0};
        for (int v = 0; v < weights.length; v++) {
            Due.is("17: noise " + v, x.noise(v), weights[v]);
        }
        Due.is("17: noise 99", x.noise(99), 0);
        int[] wrong = {-1, 100, LEAST, MOST};
        for (int v : wrong) {
            Due.is("17: noise", x.noise(v), BAD);
        }
    }

    private static void oddsAre(String text, long above, long below) {
        RankedEchoes x = Due.laid("cell 1;" + text);
        Due.is("18: above, " + text, x.odds(0), above);
        Due.is("18: below, " + text, x.odds(1), below);
    }

    private static void odds() {
        RankedEchoes x = new RankedEchoes();
        int[] wrong = {-1, 2, LEAST, MOST};
        for (int part : wrong) {
            Due.is("18: odds", x.odds(part), BAD);
        }
        // One of three outdoes the lesser, the greater of the others: counted by hand.
        oddsAre("dice 1,1;look 1,0,1,1,1;", 3, 8);
        oddsAre("dice 1,1;look 1,0,2,1,1;", 1, 8);
        oddsAre("dice 1,1;look 1,3,12,1,1;", 1, 8);
        oddsAre("dice 1,1;look 1,0,1,1,1;mode more;", 1, 8);
        oddsAre("dice 1,1;look 1,0,12,1,1;mode less;", 3, 8);
        oddsAre("dice 1,1;look 2,0,2,1,1;mode less;", 7, 32);
        oddsAre("dice 2,2;look 1,0,1,1,1;", 3, 8);
        oddsAre("dice 1,1,1;look 1,0,1,1,1;", 13, 27);
        oddsAre("dice 1,0;", 0, 1);
        oddsAre("dice 16,0;look 6,0,12,1,40;", 0, 1);
        oddsAre("dice 0,1;look 1,0,1,1,2;", 1, 1);
        oddsAre("dice 0,16;look 6,0,12,39,40;mode less;", 1, 1);
        oddsAre("dice 0,1;look 1,0,1,1,1;", 0, 1);
        oddsAre("dice 15,1;look 6,0,12,40,1;", 129746337890625L, 4503599627370496L);
        oddsAre("dice 1,15;look 6,0,1,1,1;mode more;", oneOfSixTwice(), 4503599627370496L);
        x.look(1, 3);
        Due.is("18: the gap does not matter", x.odds(0), 3813);
        x.leave(3, 1);
        Due.is("18: nor do cells left out", x.odds(0), 3813);
    }

    /** 15 of 16 for the cell, and both sides with a 0 in them: (16^6 - 15^6)^2. */
    private static long oneOfSixTwice() {
        long side = 16L * 16 * 16 * 16 * 16 * 16 - 15L * 15 * 15 * 15 * 15 * 15;
        return 15 * side * side;
    }

    private static void factor() {
        RankedEchoes x = new RankedEchoes();
        int[][] wrong = {{0, 1}, {1, 0}, {-1, 1}, {1, -1}, {1000001, 1}, {1, 1000001}, {LEAST, 1}, {1, MOST}};
        for (int[] w : wrong) {
            Due.is("19: factor", x.factor(w[0], w[1]), BAD);
        }
        Due.is("19: most by most", x.factor(1000000, 1000000), 1);
        Due.is("19: most by 1", x.factor(1000000, 1), 1);
        Due.is("19: 1 by most", x.factor(1, 1000000), NONE);
        Due.is("19: A stays", x.count(4), 2);
        Due.is("19: no change", x.count(10), 0);
        // By A = 1 there are 5 ways of 1 and 8 of 2 that alarm; by A = 2 those over 0 alone, 5 of each.
        RankedEchoes three = Due.laid("cell 1;dice 1,1,1;look 1,0,1,1,1;");
        Due.is("19: just as likely", three.factor(13, 27), 1);
        Due.is("19: a bit less likely than told", three.factor(481482, 1000000), 1);
        Due.is("19: less than by A = 1", three.factor(481481, 1000000), 2);
        Due.is("19: alike by A = 2", three.factor(10, 27), 2);
        Due.is("19: never", three.factor(370370, 1000000), NONE);
        RankedEchoes forty = Due.laid("cell 1;dice 0,1;look 1,0,1,1,40;");
        Due.is("19: A of 40", forty.factor(1, 1000000), 40);
        forty.look(4, 39);
        Due.is("19: A of 39", forty.factor(1, 2), 39);
        // 129746337890625 by 16^13 is 0.028809..: products of more than 64 bits.
        RankedEchoes far = Due.laid("cell 1;dice 15,1;look 6,0,12,40,1;");
        Due.is("19: near above", far.factor(28810, 1000000), 1);
        Due.is("19: near below", far.factor(28809, 1000000), NONE);
    }

    private static void drawn() {
        RankedEchoes x = new RankedEchoes();
        Due.is("20: below", x.drawn(-1), BAD);
        Due.is("20: far below", x.drawn(LEAST), BAD);
        Due.is("20: far above", x.drawn(MOST), NONE);
        Due.drawn("20: at first", x, ".....^.....!^!.....^=5 3");
        x.leave(12, 1);
        Due.drawn("20: one left out", x, ".....^.....^x^.....^=4 4");
        x.undo();
        Due.drawn("20: undone", x, ".....^.....!^!.....^=5 3");
        RankedEchoes most = Due.laid("cell 1,0,1,0,1,0,1,0,1,0,1,0,1,0,1,0,1,0,1,0,1,0,1,0,"
            + "1,0,1,0,1,0,1,0,1,0,1,0,1,0,1,0,1,0,1,0,1,0,1,0;look 1,0,1,1,1;");
        Due.drawn("20: two figures each", most, "^.".repeat(24) + "=24 24");
        Due.is("20: behind it", most.drawn(54), NONE);
        RankedEchoes none = Due.laid("cell 9;");
        Due.drawn("20: none", none, ".=0 0");
        none.leave(0, 1);
        Due.drawn("20: none, left out", none, "x=0 0");
        RankedEchoes ten = Due.laid("cell 9,9,9,9,9,9,9,9,9,9;look 1,0,1,1,2;");
        Due.drawn("20: ten in one bunch", ten, "^!!!!!!!!!=10 1");
    }

    private static void count() {
        RankedEchoes x = new RankedEchoes();
        int[] wrong = {-1, 12, LEAST, MOST};
        for (int what : wrong) {
            Due.is("21: count", x.count(what), BAD);
        }
        x.look(0, 6);
        x.look(1, 2);
        x.look(2, 5);
        x.look(3, 9);
        x.look(4, 7);
        x.mode(2);
        x.leave(0, 1);
        x.write('a');
        int[] want = {20, 6, 2, 5, 9, 7, 2};
        for (int what = 0; what < want.length; what++) {
            Due.is("21: count " + what, x.count(what), want[what]);
        }
        Due.is("21: left out", x.count(9), 1);
        Due.is("21: changes", x.count(10), 6);
        Due.is("21: letters", x.count(11), 1);
        int alarms = 0;
        for (int i = 0; i < 20; i++) {
            alarms += x.cell(i, 5);
        }
        Due.is("21: alarms", x.count(7), alarms);
        Due.is("21: bunches", x.count(8), x.bunch(-1, 0));
    }
}
