import java.util.ArrayList;
import java.util.List;

/** The edges of changes, a sentence of the document after the other: told anew, slid, undone. */
public final class ChangeEdgesTest {
    private static final int BAD = RankedEchoes.BAD, NO = RankedEchoes.NO, NONE = RankedEchoes.NONE;

    public static void main(String[] args) {
        power();
        leave();
        look();
        mode();
        slide();
        slideEdges();
        changes();
        eachKindUndone();
        lastSix();
        undoneAndOn();
        behindLaid();
        whatIsNoChange();
        alarmsBehindChanges();
        whateverIsAskedFirst();
        manyCalls();
        Due.end();
    }

    private static String left(RankedEchoes x) {
        StringBuilder all = new StringBuilder();
        for (int i = 0; i < x.count(0); i++) {
            all.append(x.cell(i, 1));
        }
        return all.toString();
    }

    private static String told(RankedEchoes x) {
        StringBuilder all = new StringBuilder(Due.powers(x)).append(' ').append(left(x));
        for (int what = 1; what < 7; what++) {
            all.append(' ').append(x.count(what));
        }
        return all.append(' ').append(Due.drawing(x)).toString();
    }

    private static void power() {
        Due.sentence("power: POWER of a CELL (0 to 99): what it was.");
        RankedEchoes x = Due.laid("cell 5,99,0;");
        Due.is("to 0", x.power(0, 0), 5);
        Due.is("to 99", x.power(0, 99), 0);
        Due.is("from 99 to 98", x.power(1, 98), 99);
        Due.is("the last one, from 0 to 1", x.power(2, 1), 0);
        Due.same("powers", Due.powers(x), "99,98,1");
        x.leave(1, 1);
        Due.is("of one left out", x.power(1, 7), 98);
        Due.is("it is left out still", x.cell(1, 1), 1);
        Due.is("its power", x.cell(1, 0), 7);
        RankedEchoes one = Due.laid("cell 3;");
        Due.is("the only one", one.power(0, 4), 3);
        Due.is("only that one", one.cell(0, 0), 4);
    }

    private static void leave() {
        Due.sentence("leave: A CELL is LEFT OUT (is = 1) or not (0): how many are then.");
        RankedEchoes x = Due.laid(Due.cells(48));
        for (int i = 0; i < 48; i++) {
            Due.is("one more", x.leave(i, 1), i + 1);
        }
        Due.is("all", x.count(9), 48);
        Due.drawn("all left out", x, "x".repeat(48) + "=0 0");
        for (int i = 47; i >= 0; i--) {
            Due.is("one fewer", x.leave(i, 0), i);
        }
        Due.is("none", x.count(9), 0);
        RankedEchoes one = Due.laid("cell 3;");
        Due.is("the only one", one.leave(0, 1), 1);
        Due.is("its power stays", one.cell(0, 0), 3);
        Due.is("and not", one.leave(0, 0), 0);
    }

    private static void look() {
        Due.sentence("look: Of LOOK REACH (what = 0), GAP (1), RANK (2), A (3), B (4): what it was.");
        int[] least = {1, 0, 1, 1, 1};
        int[] most = {6, 3, 12, 40, 40};
        int[] first = {3, 1, 4, 2, 1};
        for (int what = 0; what < 5; what++) {
            RankedEchoes x = new RankedEchoes();
            int was = first[what];
            for (int v = least[what]; v <= most[what]; v++) {
                Due.is("look " + what + " to " + v, x.look(what, v), v == was ? NO : was);
                Due.is("look " + what, x.count(what + 1), v);
                was = v;
            }
            Due.is("below the least", x.look(what, least[what] - 1), BAD);
            Due.is("above the most", x.look(what, most[what] + 1), BAD);
            Due.is("back to the least", x.look(what, least[what]), most[what]);
            for (int other = 0; other < 5; other++) {
                Due.is("the others stay", x.count(other + 1), other == what ? least[what] : first[other]);
            }
        }
    }

    private static void mode() {
        Due.sentence("mode: MODE (0 to 2): what it was.");
        for (int from = 0; from < 3; from++) {
            for (int to = 0; to < 3; to++) {
                RankedEchoes x = Due.laid("cell 1;mode " + new String[] {"both", "more", "less"}[from] + ";");
                Due.is("from " + from + " to " + to, x.mode(to), from == to ? NO : from);
                Due.is("mode", x.count(6), to);
            }
        }
    }

    private static void slide() {
        Due.sentence("slide: SLID, the new CELL of POWER v (0 to 99): the POWER of the one that went.");
        RankedEchoes x = Due.laid("cell 0,99,7;");
        Due.is("0 goes", x.slide(99), 0);
        Due.is("99 goes", x.slide(0), 99);
        Due.is("7 goes", x.slide(8), 7);
        Due.is("the first new one goes", x.slide(9), 99);
        Due.same("powers", Due.powers(x), "0,8,9");

        Due.sentence("SLID: the first CELL goes, all others are one place lower, a new one comes behind.");
        RankedEchoes many = Due.laid(Due.cells(48));
        String powers = Due.powers(many);
        many.slide(77);
        Due.same("powers", Due.powers(many), powers.substring(2) + ",77");
        Due.is("as many", many.count(0), 48);
        RankedEchoes one = Due.laid("cell 6;");
        Due.is("the only one goes", one.slide(4), 6);
        Due.is("the new one", one.cell(0, 0), 4);
        Due.is("as many", one.count(0), 1);
        RankedEchoes two = Due.laid("cell 6,7;");
        Due.is("the first one goes", two.slide(4), 6);
        Due.same("powers", Due.powers(two), "7,4");
        RankedEchoes round = Due.laid("cell 1,2,3,4,5;");
        for (int n = 1; n <= 25; n++) {
            Due.is("round and round", round.slide((n - 1) % 5 + 1), (n - 1) % 5 + 1);
        }
        Due.same("powers", Due.powers(round), "1,2,3,4,5");
    }

    private static void slideEdges() {
        Due.sentence("SLID: all others are one place lower: those LEFT OUT, too, and the new one is not");
        RankedEchoes x = Due.laid("cell 1,2,3,4;");
        x.leave(0, 1);
        x.leave(3, 1);
        x.slide(5);
        Due.same("left out", left(x), "0010");
        Due.is("how many", x.count(9), 1);
        x.slide(6);
        Due.same("left out", left(x), "0100");
        x.slide(7);
        x.slide(8);
        Due.same("gone", left(x), "0000");
        Due.is("none", x.count(9), 0);
        RankedEchoes all = Due.laid("cell 1,2;");
        all.leave(0, 1);
        all.leave(1, 1);
        all.slide(3);
        Due.same("left out", left(all), "10");
        RankedEchoes one = Due.laid("cell 1;");
        one.leave(0, 1);
        one.slide(1);
        Due.same("the new one is in", left(one), "0");
        one.undo();
        Due.same("the old one is out", left(one), "1");
    }

    private static void changes() {
        Due.sentence("A change: a POWER told anew, a CELL LEFT OUT or not, LOOK, MODE told anew, SLID.");
        RankedEchoes x = new RankedEchoes();
        x.power(0, 50);
        Due.is("power", x.count(10), 1);
        x.leave(0, 1);
        Due.is("left out", x.count(10), 2);
        x.leave(0, 0);
        Due.is("or not", x.count(10), 3);
        x.look(0, 6);
        Due.is("look", x.count(10), 4);
        x.mode(2);
        Due.is("mode", x.count(10), 5);
        x.slide(1);
        Due.is("slid", x.count(10), 6);
        RankedEchoes alike = Due.laid("cell 4,4,4;");
        Due.is("slid, all alike", alike.slide(4), 4);
        Due.is("a change even so", alike.count(10), 1);
        Due.is("undone", alike.undo(), 0);
        RankedEchoes there = new RankedEchoes();
        there.power(0, 9);
        there.power(0, 3);
        Due.is("there and back are two", there.count(10), 2);
    }

    private static void eachKindUndone() {
        Due.sentence("UNDONE is the latest change");
        RankedEchoes x = Due.laid("cell 3,1,4,1,5,40,6,2;look 3,0,2,2,3;");
        x.leave(2, 1);
        for (int kind = 0; kind < 13; kind++) {
            String before = told(x);
            Due.is("a change", change(x, kind) >= 0 ? 1 : 0, 1);
            Due.holds("it is told, kind " + kind, !told(x).equals(before));
            Due.is("undo", x.undo(), 1);
            Due.same("kind " + kind, told(x), before);
        }
    }

    private static int change(RankedEchoes x, int kind) {
        return switch (kind) {
            case 0 -> x.power(0, 99);
            case 1 -> x.power(7, 0);
            case 2 -> x.power(2, 5);
            case 3 -> x.leave(7, 1);
            case 4 -> x.leave(2, 0);
            case 5 -> x.look(0, 6);
            case 6 -> x.look(1, 3);
            case 7 -> x.look(2, 12);
            case 8 -> x.look(3, 40);
            case 9 -> x.look(4, 40);
            case 10 -> x.mode(2);
            case 12 -> x.slide(99);
            default -> x.slide(0);
        };
    }

    private static void lastSix() {
        Due.sentence("UNDONE is the latest change (the last 6 can be");
        for (int n = 0; n <= 14; n++) {
            RankedEchoes x = Due.laid("cell 1,2,3,4;");
            List<String> told = new ArrayList<>();
            for (int k = 0; k < n; k++) {
                told.add(told(x));
                oneOfFive(x, k);
            }
            int can = Math.min(n, 6);
            Due.is("can be undone, of " + n, x.count(10), can);
            for (int k = 1; k <= can; k++) {
                Due.is("undo, of " + n, x.undo(), can - k);
                Due.is("count, of " + n, x.count(10), can - k);
                Due.same("undone, of " + n, told(x), told.get(n - k));
            }
            Due.is("one more, of " + n, x.undo(), NO);
            Due.is("and again, of " + n, x.undo(), NO);
            Due.is("count, of " + n, x.count(10), 0);
            Due.same("it stays, of " + n, told(x), n == 0 ? told(x) : told.get(n - can));
        }

        Due.sentence("undo: UNDONE: how many more can be. NO.");
        Due.is("of none", new RankedEchoes().undo(), NO);
        RankedEchoes x = new RankedEchoes();
        x.mode(1);
        Due.is("of one", x.undo(), 0);
        Due.is("then", x.undo(), NO);
    }

    /** A change of another kind for each k. */
    private static void oneOfFive(RankedEchoes x, int k) {
        switch (k % 5) {
            case 0 -> x.slide(20 + k);
            case 1 -> x.leave(k % 4, 1 - x.cell(k % 4, 1));
            case 2 -> x.power(k % 4, 40 + k);
            case 3 -> x.look(3 + k % 2, 5 + k);
            default -> x.mode((x.count(6) + 1) % 3);
        }
    }

    private static void undoneAndOn() {
        Due.sentence("UNDONE is the latest change: changes behind it count anew, what was undone is gone");
        RankedEchoes x = Due.laid("cell 0,0,0;");
        for (int v = 1; v <= 8; v++) {
            x.power(0, v);
        }
        Due.is("undo", x.undo(), 5);
        Due.is("undo", x.undo(), 4);
        Due.is("power", x.cell(0, 0), 6);
        for (int v = 21; v <= 23; v++) {
            x.power(0, v);
        }
        Due.is("six at most", x.count(10), 6);
        int[] back = {22, 21, 6, 5, 4, 3};
        for (int k = 0; k < 6; k++) {
            Due.is("undo", x.undo(), 5 - k);
            Due.is("power", x.cell(0, 0), back[k]);
        }
        Due.is("no more", x.undo(), NO);
        x.power(0, 3);
        Due.is("it is so: no change", x.count(10), 0);
        for (int round = 0; round < 20; round++) {
            x.power(1, 50);
            Due.is("undo at once", x.undo(), 0);
        }

        Due.sentence("UNDONE: what was changed behind a slide stands at its old place");
        RankedEchoes y = Due.laid("cell 1,2,3,4;");
        y.power(0, 9);
        y.slide(5);
        y.power(0, 8);
        y.leave(0, 1);
        y.slide(6);
        y.leave(3, 1);
        Due.same("powers", Due.powers(y), "3,4,5,6");
        Due.same("left out", left(y), "0001");
        y.undo();
        y.undo();
        Due.same("powers", Due.powers(y), "8,3,4,5");
        Due.same("left out", left(y), "1000");
        y.undo();
        y.undo();
        Due.same("powers", Due.powers(y), "2,3,4,5");
        y.undo();
        y.undo();
        Due.same("powers", Due.powers(y), "1,2,3,4");
        Due.is("no more", y.undo(), NO);
    }

    private static void behindLaid() {
        Due.sentence("(behind LAID none can be)");
        RankedEchoes x = Due.written("cell 1,2;");
        for (int v = 10; v < 20; v++) {
            x.slide(v);
        }
        Due.is("before", x.count(10), 6);
        x.lay();
        Due.is("none", x.count(10), 0);
        Due.is("undo", x.undo(), NO);
        Due.same("powers", Due.powers(x), "1,2");
        x.mode(2);
        Due.is("one behind it", x.count(10), 1);
        Due.is("undo", x.undo(), 0);
        Due.is("no more", x.undo(), NO);
        x.mode(2);
        x.write('?');
        Due.is("not LAID", x.lay(), NO);
        Due.is("it can be then", x.undo(), 0);
        Due.is("mode", x.count(6), 0);
    }

    private static void whatIsNoChange() {
        Due.sentence("A change: .. : letters, what is asked, what is refused are none");
        RankedEchoes x = new RankedEchoes();
        x.mode(1);
        Due.write(x, "cell 1;x");
        x.fault();
        x.lay();
        x.wipe();
        x.power(0, 3);
        x.power(0, 100);
        x.leave(0, 0);
        x.leave(0, 2);
        x.look(0, 3);
        x.look(0, 7);
        x.mode(1);
        x.mode(3);
        x.slide(100);
        x.hides(0, 1);
        x.enough(0);
        x.factor(1, 2);
        x.odds(0);
        x.drawn(0);
        x.bunch(0, 0);
        Due.is("changes", x.count(10), 1);
        Due.is("undo", x.undo(), 0);
        Due.is("mode", x.count(6), 0);
        Due.is("undo is no change", x.undo(), NO);
    }

    private static void alarmsBehindChanges() {
        Due.sentence("ALARMS, BUNCHES and what is DRAWN are those of the row as it stands, behind each kind of change");
        RankedEchoes x = Due.laid("cell 1,1,9,1,1;look 1,0,2,2,1;");
        Due.drawn("laid", x, "..^..=1 1");
        x.power(2, 1);
        Due.drawn("power", x, ".....=0 0");
        x.undo();
        Due.drawn("power undone", x, "..^..=1 1");
        x.leave(2, 1);
        Due.drawn("left out", x, "..x..=0 0");
        x.undo();
        Due.drawn("left out undone", x, "..^..=1 1");
        x.look(3, 9);
        Due.drawn("A", x, ".....=0 0");
        x.undo();
        Due.drawn("A undone", x, "..^..=1 1");
        x.look(4, 3);
        Due.drawn("B", x, "^.^.^=3 3");
        x.undo();
        x.slide(1);
        Due.drawn("slid", x, ".^...=1 1");
        x.undo();
        Due.drawn("slid undone", x, "..^..=1 1");
        x.power(1, 5);
        Due.drawn("both", x, ".....=0 0");
        x.mode(2);
        Due.drawn("less", x, ".!^..=2 1");
        x.undo();
        Due.drawn("less undone", x, ".....=0 0");
        x.look(2, 1);
        Due.drawn("rank", x, ".!^..=2 1");
        x.undo();
        x.look(1, 1);
        Due.drawn("gap", x, ".!^..=2 1");
        x.undo();
        x.undo();
        Due.drawn("as laid", x, "..^..=1 1");
        Due.write(x, "cell 1,9;look 1,0,1,1,1;");
        x.leave(0, 1);
        x.lay();
        x.wipe();
        Due.write(x, "cell 1,9;look 1,0,1,1,1;");
        x.lay();
        Due.drawn("laid anew", x, ".^=1 1");
        Due.is("alarms", x.count(7), 1);
        Due.is("bunch", x.cell(1, 6), 0);
        Due.is("no bunch", x.cell(0, 6), NONE);
    }

    /** Lays what stands on a new object that is drawn at once, so that nothing is left there of what stood before. */
    private static RankedEchoes laidAnew(RankedEchoes x) {
        StringBuilder text = new StringBuilder("cell ").append(Due.powers(x)).append(";look ");
        for (int what = 1; what <= 5; what++) {
            text.append(what == 1 ? "" : ",").append(x.count(what));
        }
        text.append(";mode ").append(new String[] {"both", "more", "less"}[x.count(6)]).append(";");
        RankedEchoes y = Due.laid(text.toString());
        for (int i = 0; i < x.count(0); i++) {
            y.leave(i, x.cell(i, 1));
        }
        Due.drawing(y);
        return y;
    }

    private static int ask(RankedEchoes x, int question) {
        return switch (question) {
            case 0 -> x.count(7);
            case 1 -> x.count(8);
            case 2 -> x.bunch(-1, 0);
            case 3 -> x.bunch(0, 0);
            case 4 -> x.bunch(0, 1);
            case 5 -> x.bunch(0, 2);
            case 6 -> x.enough(0);
            case 7 -> x.enough(1);
            case 8, 9, 10, 11, 12, 13, 14, 15 -> x.cell(question - 8, 6);
            case 16, 17, 18, 19, 20, 21, 22, 23 -> x.cell(question - 16, 4);
            case 24, 25, 26, 27, 28, 29, 30, 31 -> x.hides(question - 24, -1);
            default -> x.drawn(question - 32);
        };
    }

    private static void whateverIsAskedFirst() {
        Due.sentence("ALARMS, BUNCHES, HIDES, ENOUGH are those of the row as it stands, whatever is asked first");
        for (int kind = 0; kind < 13; kind++) {
            for (int question = 0; question < 45; question++) {
                RankedEchoes x = Due.written("cell 3,1,4,1,5,40,6,2;look 3,0,2,2,3;");
                Due.is("at first, question " + question, ask(x, question), ask(laidAnew(x), question));
                x.lay();
                Due.is("laid, question " + question, ask(x, question), ask(laidAnew(x), question));
                x.leave(2, 1);
                ask(x, question);
                change(x, kind);
                Due.is("kind " + kind + ", question " + question, ask(x, question), ask(laidAnew(x), question));
                x.undo();
                Due.is("kind " + kind + " undone, question " + question, ask(x, question), ask(laidAnew(x), question));
            }
        }
    }

    private static void manyCalls() {
        Due.sentence("An object is used for at most 512 calls after it has been made");
        RankedEchoes slid = new RankedEchoes();
        for (int n = 0; n < 500; n++) {
            int went = slid.slide(n % 100);
            Due.holds("slid " + n, n < 20 || went == (n - 20) % 100);
        }
        Due.is("six can be undone", slid.count(10), 6);
        Due.is("first", slid.cell(0, 0), 80);
        Due.is("last", slid.cell(19, 0), 99);
        RankedEchoes written = new RankedEchoes();
        for (int n = 1; n <= 510; n++) {
            Due.is("write " + n, written.write(';'), n <= 200 ? n : RankedEchoes.FULL);
        }
        Due.is("wipe", written.wipe(), 200);
        RankedEchoes laid = Due.laid("cell 1,2;");
        for (int n = 0; n < 240; n++) {
            Due.is("slide", laid.slide(n % 100), 1);
            Due.is("lay", laid.lay(), 2);
        }
        RankedEchoes undone = new RankedEchoes();
        for (int n = 0; n < 255; n++) {
            Due.is("change", undone.power(3, 50), 1);
            Due.is("undo", undone.undo(), 0);
        }
        Due.is("power", undone.cell(3, 0), 1);
        Due.is("the 512th call", undone.undo(), NO);
    }
}
