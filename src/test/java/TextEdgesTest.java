/** The edges of THE TEXT, a sentence of the document after the other: letters, items, the first fault, laying. */
public final class TextEdgesTest {
    private static final int BAD = RankedEchoes.BAD, NO = RankedEchoes.NO;
    private static final int FULL = RankedEchoes.FULL, NONE = RankedEchoes.NONE;
    private static final int LEAST = Integer.MIN_VALUE, MOST = Integer.MAX_VALUE;
    private static final String FIRST = "3,1,4,1,5,40,6,2,3,1,9,7,50,48,5,3,2,1,6,20";

    public static void main(String[] args) {
        newObject();
        letters();
        full();
        wipe();
        items();
        eachLetterOfAnItem();
        unfinishedItems();
        figures();
        cells();
        lookNumbers();
        modeWords();
        diceNumbers();
        withoutAndSeveral();
        firstFault();
        tooManyCells();
        laid();
        textStays();
        Due.end();
    }

    private static void faultIs(String text, int want) {
        Due.is("fault of \"" + text + "\"", Due.written(text).fault(), want);
    }

    private static void laysIf(boolean so, String text, int cells) {
        RankedEchoes x = Due.written(text);
        Due.is("fault of \"" + text + "\"", x.fault(), so ? NONE : 0);
        Due.is("lay of \"" + text + "\"", x.lay(), so ? cells : NO);
    }

    private static void newObject() {
        Due.sentence("RankedEchoes(): As told; THE TEXT is empty.");
        RankedEchoes x = new RankedEchoes();
        Due.is("letters", x.count(11), 0);
        Due.is("fault", x.fault(), NONE);
        Due.is("lay", x.lay(), NO);
        Due.is("wipe", x.wipe(), 0);

        Due.sentence("at first cell 3,1,4,1,5,40,6,2,3,1,9,7,50,48,5,3,2,1,6,20;look 3,1,4,2,1;");
        x = new RankedEchoes();
        Due.same("powers", Due.powers(x), FIRST);
        sameAs(x, Due.laid("cell " + FIRST + ";look 3,1,4,2,1;"));
        Due.is("weight of 4, that is not told", x.noise(4), 0);

        Due.sentence("a CELL can be LEFT OUT (none at first)");
        Due.is("left out", new RankedEchoes().count(9), 0);
        for (int i = 0; i < 20; i++) {
            Due.is("left out, cell " + i, new RankedEchoes().cell(i, 1), 0);
        }
    }

    /** All but the letters of THE TEXT. */
    private static void sameAs(RankedEchoes x, RankedEchoes y) {
        for (int what = 0; what < 11; what++) {
            Due.is("count " + what, x.count(what), y.count(what));
        }
        for (int v = 0; v < 10; v++) {
            Due.is("noise " + v, x.noise(v), y.noise(v));
        }
        Due.same("powers", Due.powers(x), Due.powers(y));
        Due.drawn("as the other one", x, Due.drawing(y));
    }

    private static void letters() {
        Due.sentence("A letter (32 to 126, as in ASCII) comes behind THE TEXT: how long it is. BAD;");
        RankedEchoes x = new RankedEchoes();
        int length = 0;
        for (int letter = -100; letter < 300; letter++) {
            boolean good = letter >= 32 && letter <= 126;
            length += good ? 1 : 0;
            Due.is("write " + letter, x.write(letter), good ? length : BAD);
        }
        Due.is("letters", x.count(11), 95);
        int[] far = {LEAST, LEAST + 32, 256 + 'c', 65536 + 'c', MOST, MOST - 31};
        for (int letter : far) {
            Due.is("write " + letter, x.write(letter), BAD);
        }
        Due.is("letters stay", x.count(11), 95);
    }

    private static final String TAIL = "look 6,3,12,40,39;mode less;mode more;";

    /** 200 letters: 48 cells of two figures, and more. */
    private static String longest() {
        StringBuilder text = new StringBuilder("cell 10");
        for (int k = 1; k < 48; k++) {
            text.append(",").append(10 + k);
        }
        return text + ";" + TAIL + "dice 1,1,1,2;";
    }

    private static void full() {
        Due.sentence("THE TEXT is letters (200 at most); FULL: it has 200.");
        RankedEchoes x = new RankedEchoes();
        for (int n = 1; n <= 200; n++) {
            Due.is("write", x.write('0' + n % 10), n);
        }
        Due.is("the next blank", x.write(32), FULL);
        Due.is("the next ~", x.write(126), FULL);
        Due.is("letters stay", x.count(11), 200);
        Due.is("BAD ahead of FULL", x.write(31), BAD);
        Due.is("BAD ahead of FULL, above", x.write(127), BAD);
        Due.is("wipe", x.wipe(), 200);
        Due.is("write then", x.write(';'), 1);

        Due.sentence("THE TEXT is letters (200 at most): one of 200 letters is LAID.");
        String text = longest();
        Due.is("its length", text.length(), 200);
        x = Due.written(text);
        Due.is("letters", x.count(11), 200);
        Due.is("fault", x.fault(), NONE);
        Due.is("lay", x.lay(), 48);
        Due.is("its last letters count", x.noise(3), 2);
        Due.is("B", x.count(5), 39);
        Due.is("mode", x.count(6), 1);
        Due.is("last cell", x.cell(47, 0), 57);
        Due.is("a letter more", x.write(';'), FULL);
        Due.is("no fault by it", x.fault(), NONE);
        x = Due.written(text.substring(0, 199) + "1");
        Due.is("letters", x.count(11), 200);
        Due.is("the last ; is none", x.fault(), 187);
        Due.is("no ; comes behind it", x.write(';'), FULL);
        Due.is("lay", x.lay(), NO);
    }

    private static void wipe() {
        Due.sentence("wipe(): THE TEXT is empty: how long it was.");
        RankedEchoes x = new RankedEchoes();
        Due.is("of none", x.wipe(), 0);
        x.write('c');
        Due.is("of one", x.wipe(), 1);
        Due.is("again", x.wipe(), 0);
        Due.is("letters", x.count(11), 0);
        Due.is("fault", x.fault(), NONE);
        Due.write(x, "cell 1,2;mode more;dice 1,1;");
        x.lay();
        x.leave(1, 1);
        Due.is("of a laid one", x.wipe(), 28);
        Due.is("lay then", x.lay(), NO);
        Due.is("the row stays", x.count(0), 2);
        Due.is("mode stays", x.count(6), 1);
        Due.is("noise stays", x.noise(0), 1);
        Due.is("left out stays", x.count(9), 1);
        Due.is("it is no change", x.count(10), 1);
        Due.write(x, "cell");
        Due.is("no letter of the old one is left", x.fault(), 0);
        Due.write(x, " 7;");
        Due.is("lay of the new one", x.lay(), 1);
    }

    private static void items() {
        Due.sentence("A TEXT is ITEMS one behind the other, each a word, a blank, what is told here, and a ; behind it");
        String[] good = {"", "cell 1;", "cell 1;cell 2;", "look 1,1,1,1,1;mode less;dice 1,1;cell 1;mode both;"};
        for (String text : good) {
            faultIs(text, NONE);
        }
        String[] wrong = {" ", ";", ";cell 1;", " cell 1;", "cell1;", "cell  1;", "cell\t1;", "cell,1;", "cell 1,2",
            "cell 1:", "cell 1 ;", "cells 1;", "cel 1;", "ell 1;", "Cell 1;", "CELL 1;", "cell;", "cell ;", "cell",
            "cel", "c", "l;", "1;", "1", "1,2;", "moda both;", "mode", "mode;", "mode ;", "look", "look ;", "dice;",
            "dice ;", "cell mode;", "mode cell;", "look both;", "word 1;", "x", "noise 4,2;", "power 1;", "both;"};
        for (String text : wrong) {
            faultIs(text, 0);
            faultIs("cell 1;" + text, 7);
        }
        faultIs("cell 1;;", 7);
        faultIs("cell 1; cell 2;", 7);
        faultIs("cell 1,cell 2;", 0);
        faultIs("cell 1 cell 2;", 0);
    }

    /** Each letter at each place of an item: which ones are good is told place by place. */
    private static void eachLetter(String item, String[] goodAt) {
        for (int at = 0; at < item.length(); at++) {
            String good = goodAt[at] == null ? item.substring(at, at + 1) : goodAt[at];
            for (char letter = 32; letter < 127; letter++) {
                // A ; can end a good item here, with a fault behind it: told below.
                if (letter == ';') {
                    continue;
                }
                String text = item.substring(0, at) + letter + item.substring(at + 1);
                faultIs(text, good.indexOf(letter) >= 0 ? NONE : 0);
                faultIs("cell 12;" + text, good.indexOf(letter) >= 0 ? NONE : 8);
            }
        }
    }

    private static String[] goodAt(int length, String... placesAndLetters) {
        String[] good = new String[length];
        for (int k = 0; k < placesAndLetters.length; k += 2) {
            good[Integer.parseInt(placesAndLetters[k])] = placesAndLetters[k + 1];
        }
        return good;
    }

    private static void eachLetterOfAnItem() {
        Due.sentence("FAULT: the place of the first letter of the first ITEM that is not so: any one letter is another");
        String any = "0123456789";
        eachLetter("cell 4;", goodAt(7, "5", any));
        eachLetter("cell 42;", goodAt(8, "5", any, "6", any));
        eachLetter("cell 4,2;", goodAt(9, "5", any, "7", any));
        eachLetter("cell 4,25;", goodAt(10, "5", any, "7", any, "8", any));
        eachLetter("mode both;", goodAt(10));
        eachLetter("mode more;", goodAt(10));
        eachLetter("mode less;", goodAt(10));
        eachLetter("look 3,1,4,2,1;", goodAt(15, "5", "123456", "7", "0123", "9", "123456789", "11", "123456789",
            "13", "123456789"));
        eachLetter("look 3,1,10,25,30;", goodAt(18, "5", "123456", "7", "0123", "9", "1", "10", "012", "12", "0123",
            "13", any, "15", "1234", "16", any));
        eachLetter("dice 4,2;", goodAt(9, "5", any, "7", any));
        eachLetter("dice 9,2;", goodAt(9, "5", any, "7", "01234567"));
        String[] cutToAFault = {";ell 42;", "c;ll 42;", "ce;l 42;", "cel; 42;", "cell;42;", "cell ;2;", "cell 4,;;",
            "mode;both;", "mode bot;;", "look 3,1,4,2;1;", "look 3,1,4,2,;;", "dice 4;2,1;", "dice 4,;,1;", "dice 4,2,;;"};
        for (String text : cutToAFault) {
            faultIs(text, 0);
        }
        faultIs("cell 4;;", 7);
        faultIs("cell 4;2;", 7);
        faultIs("dice 4,2;1;", 9);
        faultIs("look 3,1,10,25,3;;", 17);
    }

    private static void unfinishedItems() {
        Due.sentence("FAULT: the place of the first letter of the first ITEM that is not so: a ; is still to come");
        String text = "cell 1,20;look 6,3,12,40,40;mode less;dice 0,16;cell 3;";
        int start = 0;
        RankedEchoes x = new RankedEchoes();
        for (int n = 1; n <= text.length(); n++) {
            x.write(text.charAt(n - 1));
            boolean whole = text.charAt(n - 1) == ';';
            Due.is("fault behind " + n + " letters", x.fault(), whole ? NONE : start);
            Due.is("lay behind " + n + " letters", x.lay(), whole ? n == text.length() ? 3 : 2 : NO);
            start = whole ? n : start;
        }
    }

    private static void figures() {
        Due.sentence("numbers have one or two figures and are parted by ,");
        for (int v = 0; v < 100; v++) {
            RankedEchoes x = Due.laid("cell " + v + "," + (v < 10 ? "0" : "") + v + ";");
            Due.is("first", x.cell(0, 0), v);
            Due.is("second", x.cell(1, 0), v);
            faultIs("cell " + v + (v < 10 ? "" : "0") + ";", v < 10 ? NONE : 0);
        }
        String[] wrong = {"100", "000", "001", "-1", "+1", "1.", "1.5", "a", "0x1", "1a", "1 ", " 1", "1,,2", ",1", "1,",
            ",", "1;2", "1, 2", "1 ,2", "1.2", "1:2", "1/2", "/", ":", "1-2", "1,200", "200,1"};
        for (String numbers : wrong) {
            int at = numbers.equals("1;2") ? 7 : 0;
            faultIs("cell " + numbers + ";", at);
        }
        faultIs("look 1,1,1,1,100;", 0);
        faultIs("look 1,1,1,1,001;", 0);
        faultIs("look 1,,1,1,1;", 0);
        faultIs("look 1,1,1,1,;", 0);
        faultIs("look ,1,1,1,1;", 0);
        faultIs("look 1 1 1 1 1;", 0);
        faultIs("dice 001,1;", 0);
        faultIs("dice 1,;", 0);
        faultIs("dice ,1;", 0);
        faultIs("dice 1,,1;", 0);
    }

    private static void cells() {
        Due.sentence("cell V,V,..: one CELL more for each number, of POWER V (one number at least)");
        laysIf(false, "cell ;", 0);
        laysIf(false, "cell;", 0);
        for (int n = 1; n <= 48; n++) {
            laysIf(true, Due.cells(n), n);
        }
        RankedEchoes x = Due.laid("cell 0,99;mode less;cell 99;cell 0,1;");
        Due.same("powers", Due.powers(x), "0,99,99,0,1");

        Due.sentence("THE ROW has CELLS 0, 1, .. (48 at most)");
        for (int n = 49; n <= 97; n++) {
            laysIf(false, Due.cells(n), n);
        }
        x = Due.laid(Due.cells(48));
        Due.is("first", x.cell(0, 0), 5);
        Due.is("last", x.cell(47, 0), 7);
        Due.is("none behind it", x.cell(48, 0), BAD);
        Due.is("count", x.count(0), 48);
        x.slide(9);
        Due.is("count when slid", x.count(0), 48);
    }

    private static void lookNumbers() {
        Due.sentence("LOOK: REACH L (1 to 6), GAP G (0 to 3), RANK K (1 to 12), FACTOR A by B (1 to 40 each)");
        int[] least = {1, 0, 1, 1, 1};
        int[] most = {6, 3, 12, 40, 40};
        for (int what = 0; what < 5; what++) {
            for (int v = 0; v < 100; v++) {
                int[] numbers = {2, 2, 2, 2, 2};
                numbers[what] = v;
                boolean good = v >= least[what] && v <= most[what];
                laysIf(good, "look " + list(numbers) + ";cell 1,2;", 2);
                RankedEchoes x = Due.written("cell 1;look " + list(numbers) + ";");
                x.lay();
                int first = new int[] {3, 1, 4, 2, 1}[what];
                Due.is("what is told then", x.count(what + 1), good ? v : first);
            }
        }
        laysIf(true, "look 1,0,1,1,1;cell 1;", 1);
        laysIf(true, "look 6,3,12,40,40;cell 1;", 1);
        laysIf(true, "look 06,00,01,01,09;cell 1;", 1);

        Due.sentence("look L,G,K,A,B: five numbers");
        String numbers = "1";
        for (int n = 1; n <= 60; n++) {
            laysIf(n == 5, "look " + numbers + ";cell 1;", 1);
            numbers += ",1";
        }
    }

    private static String list(int[] numbers) {
        StringBuilder all = new StringBuilder();
        for (int number : numbers) {
            all.append(all.length() == 0 ? "" : ",").append(number);
        }
        return all.toString();
    }

    private static void modeWords() {
        Due.sentence("mode M: M is one of the words both, more, less");
        String[] words = {"both", "more", "less"};
        for (int m = 0; m < 3; m++) {
            RankedEchoes x = Due.laid("cell 1;mode " + words[m] + ";");
            Due.is(words[m], x.count(6), m);
        }
        String[] wrong = {"", "b", "bot", "boths", "both ", " both", "both,more", "both more", "Both", "MORE", "0", "1",
            "2", "mor", "les", "lesss", "moreless", "none", "mode", "cell", "both,", "moth", "lore", "bess"};
        for (String word : wrong) {
            faultIs("mode " + word + ";", 0);
            faultIs("cell 1;mode " + word + ";", 7);
        }
        faultIs("mode both", 0);
    }

    private static void diceNumbers() {
        Due.sentence("NOISE: weights of POWERS 0, 1, .. (2 to 8 of them");
        String ones = "1";
        for (int n = 1; n <= 60; n++) {
            laysIf(n >= 2 && n <= 8, "dice " + ones + ";cell 1;", 1);
            ones += n < 15 ? ",1" : ",0";
        }
        laysIf(false, "dice 1,1,1,1,1,1,1,1,0;cell 1;", 1);
        laysIf(true, "dice 0,0,0,0,0,0,0,1;cell 1;", 1);

        Due.sentence("0 to 16 each), together 1 to 16");
        for (int v = 0; v < 100; v++) {
            for (int w = 0; w < 20; w++) {
                boolean good = v + w >= 1 && v + w <= 16;
                laysIf(good, "dice " + v + "," + w + ";cell 1;", 1);
                laysIf(good, "cell 1;dice 0," + w + ",0,0,0,0,0," + v + ";", 1, good ? NONE : 7);
            }
        }
        laysIf(true, "dice 2,2,2,2,2,2,2,2;cell 1;", 1);
        laysIf(false, "dice 2,2,2,2,2,2,2,3;cell 1;", 1);
        laysIf(false, "dice 0,0,0,0,0,0,0,0;cell 1;", 1);
        laysIf(false, "dice 0,0;cell 1;", 1);
        laysIf(false, "dice 99,99,99,99,99,99,99,99;cell 1;", 1);
    }

    private static void laysIf(boolean so, String text, int cells, int fault) {
        RankedEchoes x = Due.written(text);
        Due.is("fault of \"" + text + "\"", x.fault(), fault);
        Due.is("lay of \"" + text + "\"", x.lay(), so ? cells : NO);
    }

    private static void lookAndMode(String text, String look, int mode) {
        RankedEchoes x = Due.laid(text);
        int[] is = {x.count(1), x.count(2), x.count(3), x.count(4), x.count(5)};
        Due.same("look of " + text, list(is), look);
        Due.is("mode of " + text, x.count(6), mode);
    }

    private static void diceAre(String text, String weights) {
        RankedEchoes x = Due.laid(text);
        int[] is = new int[9];
        for (int v = 0; v < 9; v++) {
            is[v] = x.noise(v);
        }
        Due.same("noise of " + text, list(is), weights);
    }

    private static void withoutAndSeveral() {
        Due.sentence("LOOK (3,1,4,2,1 without; of several the last one counts)");
        lookAndMode("cell 1;", "3,1,4,2,1", 0);
        lookAndMode("look 1,0,1,1,1;cell 1;look 6,3,12,40,40;", "6,3,12,40,40", 0);
        lookAndMode("look 6,3,12,40,40;look 2,2,2,2,2;look 1,0,1,1,1;cell 1;", "1,0,1,1,1", 0);

        Due.sentence("MODE (both without; of several the last one counts)");
        lookAndMode("cell 1;look 1,1,1,1,1;", "1,1,1,1,1", 0);
        lookAndMode("mode less;cell 1;mode more;", "3,1,4,2,1", 1);
        lookAndMode("mode more;mode less;cell 1;", "3,1,4,2,1", 2);
        lookAndMode("mode more;mode less;cell 1;mode both;", "3,1,4,2,1", 0);

        Due.sentence("NOISE (4,2,1,1 without; of several the last one counts)");
        diceAre("cell 1;", "4,2,1,1,0,0,0,0,0");
        diceAre("dice 1,2,3,4,1,1,1,1;cell 1;dice 0,9;", "0,9,0,0,0,0,0,0,0");
        diceAre("dice 0,9;dice 1,2,3,4,1,1,1,1;cell 1;", "1,2,3,4,1,1,1,1,0");

        Due.sentence("without: what was LAID or told anew before does not count");
        RankedEchoes x = Due.laid("cell 1,2,3;look 6,3,12,40,40;mode less;dice 0,9;");
        x.look(0, 5);
        x.mode(1);
        x.wipe();
        Due.write(x, "cell 4;");
        Due.is("lay", x.lay(), 1);
        sameAs(x, Due.laid("cell 4;look 3,1,4,2,1;mode both;dice 4,2,1,1;"));
    }

    private static void firstFault() {
        Due.sentence("FAULT: the place of the first letter of the first ITEM that is not so: the first of several");
        faultIs("cell 1;cell ;look 1;mode x;", 7);
        faultIs("look 7,1,1,1,1;look 6,1,1,1,1;", 0);
        faultIs("look 6,1,1,1,1;look 7,1,1,1,1;", 15);
        faultIs("mode both;mode;cell", 10);
        faultIs("dice 0,1;dice 0,0;cell 1", 9);
        faultIs("cell 1;cell 2;cell 3;cell a;cell b;", 21);

        Due.sentence("fault(): FAULT of THE TEXT. NONE.");
        RankedEchoes x = new RankedEchoes();
        Due.is("of none", x.fault(), NONE);
        Due.write(x, "cell 1;mode");
        Due.is("of one", x.fault(), 7);
        Due.is("again", x.fault(), 7);
        Due.is("it changes no letter", x.count(11), 11);
        Due.write(x, " more;");
        Due.is("mended by what comes behind", x.fault(), NONE);
        Due.is("it lays nothing", x.count(0), 20);
        Due.is("it tells no mode", x.count(6), 0);
        faultIs("look 1,1,1,1,1;mode less;dice 1,1;", NONE);
        String far = "mode more;".repeat(19) + "mode both";
        faultIs(far, 190);
        faultIs("mode more;".repeat(19) + "cell 7,77;", NONE);
        faultIs("cell 12;".repeat(24) + "mode les", 192);
        faultIs("mode more;".repeat(19) + "cell 7,7;;", 199);
    }

    private static void tooManyCells() {
        Due.sentence("(or by which there are more than 48 CELLS)");
        for (int n = 1; n <= 47; n++) {
            String text = Due.cells(n) + Due.cells(48 - n);
            faultIs(text, NONE);
            faultIs(text + "mode less;", NONE);
            faultIs(text + "cell 1;", text.length());
            faultIs(text + "mode more;cell 1;look 1;", text.length() + 10);
            faultIs(Due.cells(n) + Due.cells(49 - n), Due.cells(n).length());
            faultIs("mode less;" + Due.cells(n) + Due.cells(49 - n) + "cell 1;", Due.cells(n).length() + 10);
        }
        faultIs(Due.cells(49), 0);
        faultIs("mode less;" + Due.cells(49), 10);
        faultIs("cell 1;mode;" + Due.cells(48), 7);
        faultIs(Due.cells(49) + "mode;", 0);
        RankedEchoes x = Due.written(Due.cells(48) + "cell 1;");
        Due.is("lay", x.lay(), NO);
        Due.is("the row stays", x.count(0), 20);
        String one = "cell 1;";
        Due.is("lay of many items", Due.written(one.repeat(28)).lay(), 28);
    }

    private static void laid() {
        Due.sentence("LAID is a TEXT without FAULT with a CELL at least (NO else");
        String[] none = {"", "look 3,1,4,2,1;", "mode less;", "dice 4,2,1,1;", "look 1,1,1,1,1;mode more;dice 1,1;"};
        for (String text : none) {
            RankedEchoes x = Due.written(text);
            Due.is("fault of \"" + text + "\"", x.fault(), NONE);
            Due.is("lay of \"" + text + "\"", x.lay(), NO);
            Due.same("the row stays", Due.powers(x), FIRST);
            Due.is("mode stays", x.count(6), 0);
            Due.is("look stays", x.count(1), 3);
            Due.is("noise stays", x.noise(0), 4);
            Due.write(x, "cell 8;");
            Due.is("lay with a cell", x.lay(), 1);
        }
        Due.is("lay of a fault", Due.written("cell 1;mode less;cell").lay(), NO);
        Due.is("lay of a fault ahead", Due.written("cell;cell 1;").lay(), NO);

        Due.sentence("lay(): LAID: how many CELLS; none LEFT OUT, nothing can be UNDONE. NO.");
        RankedEchoes x = Due.written("cell 1,2,3;");
        x.leave(0, 1);
        x.leave(2, 1);
        x.leave(19, 1);
        Due.is("lay", x.lay(), 3);
        Due.is("left out", x.count(9), 0);
        Due.is("left out, cell 0", x.cell(0, 1), 0);
        Due.is("changes", x.count(10), 0);
        Due.is("undo", x.undo(), NO);
        Due.is("of cells such as there are no more", x.cell(3, 1), BAD);
        x.leave(1, 1);
        x.wipe();
        Due.write(x, "cell ");
        Due.is("NO", x.lay(), NO);
        Due.is("left out stays", x.cell(1, 1), 1);
        Due.is("changes stay", x.count(10), 1);
        Due.is("undo", x.undo(), 0);
        x.wipe();
        Due.write(x, Due.cells(20));
        Due.is("more cells than before", x.lay(), 20);
        Due.is("none left out of them", x.count(9), 0);
    }

    private static void textStays() {
        Due.sentence("THE TEXT stays when it is LAID.");
        RankedEchoes x = Due.laid("cell 1,2;mode less;");
        Due.is("letters", x.count(11), 19);
        x.mode(0);
        x.slide(50);
        Due.is("lay again", x.lay(), 2);
        Due.same("powers", Due.powers(x), "1,2");
        Due.is("mode", x.count(6), 2);
        Due.write(x, "cell 3;");
        Due.is("letters", x.count(11), 26);
        Due.is("lay of more", x.lay(), 3);
        Due.write(x, "x");
        Due.is("lay of a fault", x.lay(), NO);
        Due.is("letters stay then, too", x.count(11), 27);
        Due.is("fault", x.fault(), 26);
        Due.is("wipe", x.wipe(), 27);
    }
}
