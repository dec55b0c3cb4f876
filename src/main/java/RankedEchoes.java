import java.util.Arrays;

/** Echoes told from noise by ranked neighbours. README.md says how it is used. */
public final class RankedEchoes {
    public static final int BAD = -1, NO = -2, FULL = -3, NONE = -4;

    private static final int MOST_CELLS = 48, MOST_LETTERS = 200, MOST_UNDONE = 6;
    private static final int MOST_WEIGHTS = 8, MOST_WEIGHT = 16, MOST_FACTOR = 40;
    private static final int MOST_POWER = 99, MOST_ODDS = 1000000;

    private static final int REACH = 0, GAP = 1, RANK = 2, A = 3, B = 4;
    private static final int[] LOOK_LEAST = {1, 0, 1, 1, 1};
    private static final int[] LOOK_MOST = {6, 3, 12, MOST_FACTOR, MOST_FACTOR};
    /** The cells on both sides by the greatest reach. */
    private static final int MOST_WINDOW = 12;

    private static final int BOTH = 0, MORE = 1, LESS = 2;
    private static final int AHEAD = 0, BEHIND = 1, EITHER = 2;
    private static final int POWER_TOLD = 0, LEFT_TOLD = 1, LOOK_TOLD = 2, MODE_TOLD = 3, SLID = 4;

    private static final int[] FIRST_CELLS = {3, 1, 4, 1, 5, 40, 6, 2, 3, 1, 9, 7, 50, 48, 5, 3, 2, 1, 6, 20};
    private static final int[] LOOK_WITHOUT = {3, 1, 4, 2, 1};
    private static final int[] DICE_WITHOUT = {4, 2, 1, 1, 0, 0, 0, 0};

    private final Text text;
    private final Told told;
    private final Row row;
    private final Alarms alarms;
    private final Dice dice;
    private final Past past;

    public RankedEchoes() {
        text = new Text();
        told = new Told();
        row = new Row();
        alarms = new Alarms();
        dice = new Dice();
        past = new Past();
        told.startAnew();
        told.addCells(FIRST_CELLS, FIRST_CELLS.length);
        layWhatIsTold();
    }

    // ---- told

    public int write(int letter) {
        if (letter < 32 || letter > 126) {
            return BAD;
        }
        if (text.length >= MOST_LETTERS) {
            return FULL;
        }
        text.append(letter);
        return text.length;
    }

    public int wipe() {
        int was = text.length;
        text.length = 0;
        return was;
    }

    public int fault() {
        return text.readInto(told);
    }

    public int lay() {
        if (text.readInto(told) != NONE || told.size == 0) {
            return NO;
        }
        layWhatIsTold();
        return row.size;
    }

    private void layWhatIsTold() {
        row.take(told);
        dice.take(told);
        past.size = 0;
    }

    // ---- told anew

    public int power(int i, int v) {
        if (!row.has(i) || !isPower(v)) {
            return BAD;
        }
        int was = row.powers[i];
        if (was == v) {
            return NO;
        }
        past.keep(POWER_TOLD, i, was);
        row.setPower(i, v);
        return was;
    }

    public int leave(int i, int is) {
        if (!row.has(i) || is < 0 || is > 1) {
            return BAD;
        }
        int was = row.left[i];
        if (was == is) {
            return NO;
        }
        past.keep(LEFT_TOLD, i, was);
        row.setLeft(i, is);
        return row.howManyLeft();
    }

    public int look(int what, int v) {
        if (what < REACH || what > B || !isLook(what, v)) {
            return BAD;
        }
        int was = row.look[what];
        if (was == v) {
            return NO;
        }
        past.keep(LOOK_TOLD, what, was);
        row.setLook(what, v);
        return was;
    }

    public int mode(int m) {
        if (m < BOTH || m > LESS) {
            return BAD;
        }
        int was = row.mode;
        if (was == m) {
            return NO;
        }
        past.keep(MODE_TOLD, 0, was);
        row.setMode(m);
        return was;
    }

    public int slide(int v) {
        if (!isPower(v)) {
            return BAD;
        }
        int was = row.powers[0];
        past.keep(SLID, row.left[0], was);
        row.slideOn(v);
        return was;
    }

    public int undo() {
        if (past.size <= 0) {
            return NO;
        }
        past.size--;
        row.takeBack(past.kinds[past.size], past.places[past.size], past.values[past.size]);
        return past.size;
    }

    // ---- cells

    public int cell(int i, int what) {
        if (!row.has(i)) {
            return BAD;
        }
        switch (what) {
            case 0:
                return row.powers[i];
            case 1:
                return row.left[i];
            case 2:
                return row.gather(i, AHEAD, NONE);
            case 3:
                return row.gather(i, BEHIND, NONE);
            case 4:
                return row.floorOf(i, NONE);
            case 5:
                return row.alarmsWithout(i, NONE) ? 1 : 0;
            case 6:
                alarms.settle(row);
                return alarms.bunchOf[i];
            default:
                return BAD;
        }
    }

    public int ranked(int i, int side, int k) {
        if (!row.has(i) || side < AHEAD || side > EITHER || k < 1) {
            return BAD;
        }
        int found = row.gather(i, side, NONE);
        return k > found || k > MOST_WINDOW ? NONE : row.window[k - 1];
    }

    public int hides(int i, int j) {
        if (!row.has(i) || i == j || j != -1 && !row.has(j)) {
            return BAD;
        }
        if (row.left[i] == 1 || j != -1 && row.left[j] == 1) {
            return NO;
        }
        alarms.settle(row);
        int hidden = 0;
        for (int other = 0; other < row.size && other < MOST_CELLS; other++) {
            boolean asked = other != i && (j == -1 || j == other);
            if (asked && alarms.bunchOf[other] == NONE && row.alarmsWithout(other, i)) {
                hidden++;
            }
        }
        return hidden;
    }

    // ---- bunches

    public int bunch(int n, int what) {
        if (n < -1 || what < 0 || what > 2) {
            return BAD;
        }
        alarms.settle(row);
        if (n == -1) {
            return alarms.bunches;
        }
        if (n >= alarms.bunches || n >= MOST_CELLS) {
            return NONE;
        }
        return what == 0 ? alarms.firsts[n] : what == 1 ? alarms.lasts[n] : alarms.peaks[n];
    }

    public int enough(int n) {
        if (n < 0 || n > MOST_CELLS) {
            return BAD;
        }
        alarms.settle(row);
        for (int a = 1; a <= MOST_FACTOR; a++) {
            if (alarms.howManyBy(a, row) <= n) {
                return a;
            }
        }
        return NONE;
    }

    // ---- odds

    public int noise(int v) {
        if (!isPower(v)) {
            return BAD;
        }
        return v < MOST_WEIGHTS ? dice.weights[v] : 0;
    }

    public long odds(int part) {
        if (part < 0 || part > 1) {
            return BAD;
        }
        dice.countFloors(row.look, row.mode);
        long above = dice.alarmWays(row.look[A], row.look[B]);
        long below = dice.allWays(row.look[REACH]);
        long shared = commonDivisor(above, below);
        // Never so, for there is a way at least; looked at as every divisor is.
        if (shared <= 0) {
            return BAD;
        }
        return (part == 0 ? above : below) / shared;
    }

    public int factor(int a, int b) {
        if (a < 1 || a > MOST_ODDS || b < 1 || b > MOST_ODDS) {
            return BAD;
        }
        dice.countFloors(row.look, row.mode);
        long below = dice.allWays(row.look[REACH]);
        for (int f = 1; f <= MOST_FACTOR; f++) {
            if (productIsNoMore(dice.alarmWays(f, row.look[B]), b, below, a)) {
                return f;
            }
        }
        return NONE;
    }

    // ---- drawn

    public int drawn(int k) {
        if (k < 0) {
            return BAD;
        }
        alarms.settle(row);
        if (row.has(k)) {
            return row.left[k] == 1 ? 'x' : alarms.letterOf(k);
        }
        return letterBehindCells(k - row.size);
    }

    public int count(int what) {
        switch (what) {
            case 0:
                return row.size;
            case 1:
            case 2:
            case 3:
            case 4:
            case 5:
                return row.look[what - 1];
            case 6:
                return row.mode;
            case 7:
                alarms.settle(row);
                return alarms.howMany;
            case 8:
                alarms.settle(row);
                return alarms.bunches;
            case 9:
                return row.howManyLeft();
            case 10:
                return past.size;
            case 11:
                return text.length;
            default:
                return BAD;
        }
    }

    private int letterBehindCells(int k) {
        if (k == 0) {
            return '=';
        }
        int blank = 1 + figuresOf(alarms.howMany);
        if (k < blank) {
            return figureOf(alarms.howMany, blank - 1 - k);
        }
        if (k == blank) {
            return ' ';
        }
        int end = blank + 1 + figuresOf(alarms.bunches);
        return k < end ? figureOf(alarms.bunches, end - 1 - k) : NONE;
    }

    /** How many figures a number below 100 has. */
    private static int figuresOf(int number) {
        return number < 10 ? 1 : 2;
    }

    /** A figure of a number below 100, the last one being that at 0 from behind. */
    private static int figureOf(int number, int fromBehind) {
        return '0' + (fromBehind == 0 ? number % 10 : number / 10);
    }

    private static boolean isPower(int v) {
        return v >= 0 && v <= MOST_POWER;
    }

    private static boolean isLook(int what, int v) {
        return what >= REACH && what <= B && v >= LOOK_LEAST[what] && v <= LOOK_MOST[what];
    }

    /** The greatest number that divides both, of which the second one is not 0. */
    private static long commonDivisor(long one, long other) {
        long x = one;
        long y = other;
        // Two numbers of 64 bits take fewer than a hundred steps.
        for (int step = 0; step < 200 && y != 0; step++) {
            long rest = x % y;
            x = y;
            y = rest;
        }
        return x;
    }

    /** Whether p * q is no more than r * s; in halves, for p and r have up to 53 bits, q and s up to 20. */
    private static boolean productIsNoMore(long p, long q, long r, long s) {
        int half = 26;
        long mask = (1L << half) - 1;
        long pqLow = (p & mask) * q;
        long pqHigh = (p >> half) * q + (pqLow >> half);
        long rsLow = (r & mask) * s;
        long rsHigh = (r >> half) * s + (rsLow >> half);
        if (pqHigh != rsHigh) {
            return pqHigh < rsHigh;
        }
        return (pqLow & mask) <= (rsLow & mask);
    }

    /** What a text tells, before it is laid: kept apart, so that a text with a fault changes nothing. */
    private static final class Told {
        final int[] powers = new int[MOST_CELLS];
        final int[] look = new int[LOOK_WITHOUT.length];
        final int[] weights = new int[MOST_WEIGHTS];
        int size;
        int mode;

        void startAnew() {
            size = 0;
            mode = BOTH;
            System.arraycopy(LOOK_WITHOUT, 0, look, 0, LOOK_WITHOUT.length);
            System.arraycopy(DICE_WITHOUT, 0, weights, 0, MOST_WEIGHTS);
        }

        boolean addCells(int[] numbers, int n) {
            if (n < 1 || n > numbers.length || size + n > MOST_CELLS) {
                return false;
            }
            System.arraycopy(numbers, 0, powers, size, n);
            size += n;
            return true;
        }

        boolean setLookTo(int[] numbers, int n) {
            if (n != look.length || n > numbers.length) {
                return false;
            }
            for (int what = 0; what < n; what++) {
                if (!isLook(what, numbers[what])) {
                    return false;
                }
            }
            System.arraycopy(numbers, 0, look, 0, n);
            return true;
        }

        boolean setWeightsTo(int[] numbers, int n) {
            if (n < 2 || n > MOST_WEIGHTS || n > numbers.length) {
                return false;
            }
            int together = 0;
            for (int v = 0; v < n; v++) {
                together += numbers[v];
            }
            // No weight is below 0, so none is above 16 where all of them together are not.
            if (together < 1 || together > MOST_WEIGHT) {
                return false;
            }
            Arrays.fill(weights, 0);
            System.arraycopy(numbers, 0, weights, 0, n);
            return true;
        }
    }

    /** The letters, and how they are read. */
    private static final class Text {
        private static final int WORD_AND_BLANK = 5;
        private final int[] letters = new int[MOST_LETTERS];
        private final int[] numbers = new int[MOST_CELLS];
        int length;

        void append(int letter) {
            if (length < MOST_LETTERS) {
                letters[length] = letter;
                length++;
            }
        }

        /** Where the first item stands that has a fault, or NONE. */
        int readInto(Told told) {
            told.startAnew();
            int start = 0;
            for (int item = 0; item < MOST_LETTERS && start < length; item++) {
                int end = endOfItem(start);
                if (end == NONE || !readItem(start, end, told)) {
                    return start;
                }
                start = end + 1;
            }
            return NONE;
        }

        private int endOfItem(int start) {
            for (int at = start; at < length; at++) {
                if (letters[at] == ';') {
                    return at;
                }
            }
            return NONE;
        }

        private boolean readItem(int start, int end, Told told) {
            int body = start + WORD_AND_BLANK;
            if (stands("mode ", start, body)) {
                return readMode(body, end, told);
            }
            if (stands("cell ", start, body)) {
                return told.addCells(numbers, readNumbers(body, end));
            }
            if (stands("look ", start, body)) {
                return told.setLookTo(numbers, readNumbers(body, end));
            }
            if (stands("dice ", start, body)) {
                return told.setWeightsTo(numbers, readNumbers(body, end));
            }
            return false;
        }

        private boolean readMode(int body, int end, Told told) {
            if (stands("both", body, end)) {
                told.mode = BOTH;
            } else if (stands("more", body, end)) {
                told.mode = MORE;
            } else if (stands("less", body, end)) {
                told.mode = LESS;
            } else {
                return false;
            }
            return true;
        }

        /** Whether the letters from start up to end, without it, are those of the word. */
        private boolean stands(String word, int start, int end) {
            if (start < 0 || end > length || end - start != word.length()) {
                return false;
            }
            for (int k = 0; k < word.length(); k++) {
                if (letters[start + k] != word.charAt(k)) {
                    return false;
                }
            }
            return true;
        }

        /** How many numbers there are from start up to the ; at end; NONE if they are not written as they should be. */
        private int readNumbers(int start, int end) {
            int n = 0;
            int figures = 0;
            int value = 0;
            for (int at = start; at <= end && at < length; at++) {
                int letter = letters[at];
                if (letter >= '0' && letter <= '9' && figures < 2) {
                    value = value * 10 + letter - '0';
                    figures++;
                } else if ((letter == ',' || letter == ';') && figures > 0 && n < MOST_CELLS) {
                    numbers[n] = value;
                    n++;
                    figures = 0;
                    value = 0;
                } else {
                    return NONE;
                }
            }
            return n;
        }
    }

    /** The cells, and how they are looked at. */
    private static final class Row {
        final int[] powers = new int[MOST_CELLS];
        /** 1 for a cell that is left out, else 0. */
        final int[] left = new int[MOST_CELLS];
        final int[] look = new int[LOOK_WITHOUT.length];
        final int[] window = new int[MOST_WINDOW];
        private int inWindow;
        int size;
        int mode;
        /** Whether anything is otherwise since the alarms were counted. */
        boolean changed;

        boolean has(int i) {
            return i >= 0 && i < size && i < MOST_CELLS;
        }

        void take(Told told) {
            System.arraycopy(told.powers, 0, powers, 0, MOST_CELLS);
            System.arraycopy(told.look, 0, look, 0, look.length);
            Arrays.fill(left, 0);
            size = told.size;
            mode = told.mode;
            changed = true;
        }

        void setPower(int i, int v) {
            if (has(i)) {
                powers[i] = v;
                changed = true;
            }
        }

        void setLeft(int i, int is) {
            if (has(i)) {
                left[i] = is;
                changed = true;
            }
        }

        void setLook(int what, int v) {
            if (isLook(what, v)) {
                look[what] = v;
                changed = true;
            }
        }

        void setMode(int m) {
            mode = m;
            changed = true;
        }

        void slideOn(int v) {
            int last = size - 1;
            if (has(last)) {
                System.arraycopy(powers, 1, powers, 0, last);
                System.arraycopy(left, 1, left, 0, last);
                powers[last] = v;
                left[last] = 0;
                changed = true;
            }
        }

        private void slideBack(int v, int wasLeft) {
            int last = size - 1;
            if (has(last)) {
                System.arraycopy(powers, 0, powers, 1, last);
                System.arraycopy(left, 0, left, 1, last);
                powers[0] = v;
                left[0] = wasLeft;
                changed = true;
            }
        }

        /** Undoes a change, told as Past keeps it. */
        void takeBack(int kind, int place, int value) {
            switch (kind) {
                case POWER_TOLD:
                    setPower(place, value);
                    break;
                case LEFT_TOLD:
                    setLeft(place, value);
                    break;
                case LOOK_TOLD:
                    setLook(place, value);
                    break;
                case MODE_TOLD:
                    setMode(value);
                    break;
                default:
                    slideBack(value, place);
                    break;
            }
        }

        int howManyLeft() {
            int n = 0;
            for (int i = 0; i < size && i < MOST_CELLS; i++) {
                n += left[i];
            }
            return n;
        }

        /** Brings the powers on a side of cell i into the window, the least first, as if one cell more were left out. */
        int gather(int i, int side, int without) {
            int reach = look[REACH];
            int gap = look[GAP];
            inWindow = 0;
            if (side != BEHIND) {
                gatherFrom(i - gap - reach, i - gap - 1, without);
            }
            if (side != AHEAD) {
                gatherFrom(i + gap + 1, i + gap + reach, without);
            }
            return inWindow;
        }

        private void gatherFrom(int first, int last, int without) {
            for (int i = Math.max(first, 0); i <= last && i < size && i < MOST_CELLS; i++) {
                if (left[i] == 0 && i != without) {
                    sortIn(powers[i]);
                }
            }
        }

        private void sortIn(int v) {
            if (inWindow < 0 || inWindow >= MOST_WINDOW) {
                return;
            }
            int at = inWindow;
            while (at > 0 && window[at - 1] > v) {
                window[at] = window[at - 1];
                at--;
            }
            window[at] = v;
            inWindow++;
        }

        int floorOf(int i, int without) {
            if (mode == BOTH) {
                return rankOn(i, EITHER, without);
            }
            int ahead = rankOn(i, AHEAD, without);
            int behind = rankOn(i, BEHIND, without);
            if (ahead == NONE) {
                return behind;
            }
            if (behind == NONE) {
                return ahead;
            }
            return mode == MORE ? Math.max(ahead, behind) : Math.min(ahead, behind);
        }

        private int rankOn(int i, int side, int without) {
            int at = Math.min(gather(i, side, without), look[RANK]) - 1;
            return at >= 0 && at < MOST_WINDOW ? window[at] : NONE;
        }

        boolean outdoes(int i, int floor, int a) {
            return has(i) && left[i] == 0 && floor != NONE && look[B] * powers[i] > a * floor;
        }

        boolean alarmsWithout(int i, int without) {
            return outdoes(i, floorOf(i, without), look[A]);
        }
    }

    /** The alarms of the row and their bunches, counted anew only where the row has changed. */
    private static final class Alarms {
        private final int[] floors = new int[MOST_CELLS];
        final int[] bunchOf = new int[MOST_CELLS];
        final int[] firsts = new int[MOST_CELLS];
        final int[] lasts = new int[MOST_CELLS];
        final int[] peaks = new int[MOST_CELLS];
        int howMany;
        int bunches;

        void settle(Row row) {
            if (!row.changed) {
                return;
            }
            row.changed = false;
            howMany = 0;
            bunches = 0;
            for (int i = 0; i < row.size && i < MOST_CELLS; i++) {
                floors[i] = row.floorOf(i, NONE);
                bunchOf[i] = NONE;
                if (row.outdoes(i, floors[i], row.look[A])) {
                    howMany++;
                    addToBunch(i, row);
                }
            }
        }

        private void addToBunch(int i, Row row) {
            boolean goesOn = bunches > 0 && lasts[bunches - 1] == i - 1;
            int n = goesOn ? bunches - 1 : bunches;
            if (n >= MOST_CELLS) {
                return;
            }
            if (!goesOn) {
                firsts[n] = i;
                peaks[n] = i;
                bunches++;
            }
            lasts[n] = i;
            bunchOf[i] = n;
            if (row.powers[i] > row.powers[peaks[n]]) {
                peaks[n] = i;
            }
        }

        int howManyBy(int a, Row row) {
            int n = 0;
            for (int i = 0; i < row.size && i < MOST_CELLS; i++) {
                if (row.outdoes(i, floors[i], a)) {
                    n++;
                }
            }
            return n;
        }

        /** The letter of a cell that is not left out. */
        int letterOf(int i) {
            int n = bunchOf[i];
            if (n < 0 || n >= bunches) {
                return '.';
            }
            return peaks[n] == i ? '^' : '!';
        }
    }

    /** The weights of powers in noise; the ways in which cells can fall are counted by them, up to 16 to the 13th. */
    private static final class Dice {
        final int[] weights = new int[MOST_WEIGHTS];
        private final long[] waysByHowMany = new long[MOST_WINDOW + 1];
        private final long[] floorWays = new long[MOST_WEIGHTS];
        private int together;

        void take(Told told) {
            together = 0;
            for (int v = 0; v < MOST_WEIGHTS; v++) {
                weights[v] = told.weights[v];
                together += weights[v];
            }
        }

        /** In how many ways the window falls so that each power is the floor. */
        void countFloors(int[] look, int mode) {
            int atMost = 0;
            long before = 0;
            for (int v = 0; v < MOST_WEIGHTS; v++) {
                atMost += weights[v];
                long now = waysOfFloorAtMost(atMost, look[REACH], look[RANK], mode);
                floorWays[v] = now - before;
                before = now;
            }
        }

        private long waysOfFloorAtMost(int atMost, int reach, int rank, int mode) {
            if (mode == BOTH) {
                return waysOfRankAtMost(atMost, 2 * reach, rank);
            }
            long side = waysOfRankAtMost(atMost, reach, rank);
            if (mode == MORE) {
                return side * side;
            }
            long all = raised(reach);
            return all * all - (all - side) * (all - side);
        }

        /** In how many ways n cells fall so that the one of the rank is among the least powers, of weight atMost. */
        private long waysOfRankAtMost(int atMost, int n, int rank) {
            int more = together - atMost;
            Arrays.fill(waysByHowMany, 0L);
            waysByHowMany[0] = 1;
            for (int cell = 1; cell <= n && cell <= MOST_WINDOW; cell++) {
                for (int low = cell; low > 0; low--) {
                    waysByHowMany[low] = waysByHowMany[low] * more + waysByHowMany[low - 1] * atMost;
                }
                waysByHowMany[0] *= more;
            }
            long ways = 0;
            for (int low = Math.min(rank, n); low <= n && low <= MOST_WINDOW; low++) {
                ways += waysByHowMany[low];
            }
            return ways;
        }

        private long raised(int n) {
            long ways = 1;
            for (int cell = 0; cell < n; cell++) {
                ways *= together;
            }
            return ways;
        }

        long allWays(int reach) {
            return raised(2 * reach + 1);
        }

        /** In how many ways the cell outdoes its floor, behind countFloors. */
        long alarmWays(int a, int b) {
            long ways = 0;
            for (int v = 0; v < MOST_WEIGHTS; v++) {
                for (int floor = 0; floor < MOST_WEIGHTS && a * floor < b * v; floor++) {
                    ways += weights[v] * floorWays[floor];
                }
            }
            return ways;
        }
    }

    /** The latest changes, the oldest first: of which kind, where, and what it was. */
    private static final class Past {
        final int[] kinds = new int[MOST_UNDONE];
        final int[] places = new int[MOST_UNDONE];
        final int[] values = new int[MOST_UNDONE];
        int size;

        void keep(int kind, int place, int value) {
            if (size >= MOST_UNDONE) {
                forgetOldest();
            }
            kinds[size] = kind;
            places[size] = place;
            values[size] = value;
            size++;
        }

        private void forgetOldest() {
            size = MOST_UNDONE - 1;
            System.arraycopy(kinds, 1, kinds, 0, size);
            System.arraycopy(places, 1, places, 0, size);
            System.arraycopy(values, 1, values, 0, size);
        }
    }
}
