import java.math.BigInteger;
import java.util.ArrayDeque;
import java.util.ArrayList;
import java.util.Collections;
import java.util.Deque;
import java.util.List;
import java.util.TreeMap;
import java.util.regex.Matcher;
import java.util.regex.Pattern;

/** The document a second time, by other means: whole states kept for undoing, patterns for the text, odds by hand counts. */
final class Model {
    private static final int BAD = -1, NO = -2, FULL = -3, NONE = -4;
    private static final Pattern ITEM = Pattern.compile(
        "(?:cell (?<cell>N(?:,N)*)|look (?<look>N,N,N,N,N)|mode (?<mode>both|more|less)|dice (?<dice>N(?:,N){1,7}));"
            .replace("N", "[0-9]{1,2}"));

    private record State(List<Integer> powers, List<Boolean> left, int[] look, int mode) {
        State copy() {
            return new State(new ArrayList<>(powers), new ArrayList<>(left), look.clone(), mode);
        }

        State withMode(int m) {
            return new State(powers, left, look, m);
        }
    }

    private final StringBuilder text = new StringBuilder();
    private final Deque<State> past = new ArrayDeque<>();
    private State now;
    private List<Integer> dice;

    Model() {
        layText("cell 3,1,4,1,5,40,6,2,3,1,9,7,50,48,5,3,2,1,6,20;look 3,1,4,2,1;");
    }

    // ---- told

    int write(int letter) {
        if (letter < 32 || letter > 126) {
            return BAD;
        }
        if (text.length() == 200) {
            return FULL;
        }
        return text.append((char) letter).length();
    }

    int wipe() {
        int was = text.length();
        text.setLength(0);
        return was;
    }

    int fault() {
        return faultOf(text.toString());
    }

    int lay() {
        if (fault() != NONE || !text.toString().contains("cell")) {
            return NO;
        }
        layText(text.toString());
        return now.powers.size();
    }

    private static int faultOf(String all) {
        int cells = 0;
        Matcher m = ITEM.matcher(all);
        int at = 0;
        while (at < all.length()) {
            m.region(at, all.length());
            if (!m.lookingAt()) {
                return at;
            }
            if (m.group("cell") != null) {
                cells += numbers(m.group("cell")).size();
            }
            if (cells > 48 || m.group("look") != null && !isLook(numbers(m.group("look")))
                || m.group("dice") != null && !isDice(numbers(m.group("dice")))) {
                return at;
            }
            at = m.end();
        }
        return NONE;
    }

    private static boolean isLook(List<Integer> n) {
        return in(n.get(0), 1, 6) && in(n.get(1), 0, 3) && in(n.get(2), 1, 12) && in(n.get(3), 1, 40)
            && in(n.get(4), 1, 40);
    }

    private static boolean isDice(List<Integer> n) {
        return n.stream().allMatch(w -> in(w, 0, 16)) && in(n.stream().mapToInt(w -> w).sum(), 1, 16);
    }

    private static List<Integer> numbers(String list) {
        List<Integer> all = new ArrayList<>();
        for (String number : list.split(",")) {
            all.add(Integer.parseInt(number));
        }
        return all;
    }

    private void layText(String all) {
        List<Integer> powers = new ArrayList<>();
        int[] look = {3, 1, 4, 2, 1};
        int mode = 0;
        dice = List.of(4, 2, 1, 1);
        for (String item : all.split(";")) {
            String body = item.substring(5);
            switch (item.charAt(0)) {
                case 'c' -> powers.addAll(numbers(body));
                case 'l' -> look = numbers(body).stream().mapToInt(n -> n).toArray();
                case 'm' -> mode = List.of("both", "more", "less").indexOf(body);
                default -> dice = numbers(body);
            }
        }
        now = new State(powers, new ArrayList<>(Collections.nCopies(powers.size(), false)), look, mode);
        past.clear();
    }

    // ---- told anew

    private void change() {
        past.addLast(now.copy());
        if (past.size() > 6) {
            past.removeFirst();
        }
    }

    int power(int i, int v) {
        if (!isCell(i) || !in(v, 0, 99)) {
            return BAD;
        }
        if (now.powers.get(i) == v) {
            return NO;
        }
        change();
        return now.powers.set(i, v);
    }

    int leave(int i, int is) {
        if (!isCell(i) || !in(is, 0, 1)) {
            return BAD;
        }
        if (now.left.get(i) == (is == 1)) {
            return NO;
        }
        change();
        now.left.set(i, is == 1);
        return count(9);
    }

    int look(int what, int v) {
        int[] least = {1, 0, 1, 1, 1};
        int[] most = {6, 3, 12, 40, 40};
        if (!in(what, 0, 4) || !in(v, least[what], most[what])) {
            return BAD;
        }
        int was = now.look[what];
        if (was == v) {
            return NO;
        }
        change();
        now.look[what] = v;
        return was;
    }

    int mode(int m) {
        if (!in(m, 0, 2)) {
            return BAD;
        }
        int was = now.mode;
        if (was == m) {
            return NO;
        }
        change();
        now = now.withMode(m);
        return was;
    }

    int slide(int v) {
        if (!in(v, 0, 99)) {
            return BAD;
        }
        change();
        now.powers.add(v);
        now.left.add(false);
        now.left.remove(0);
        return now.powers.remove(0);
    }

    int undo() {
        if (past.isEmpty()) {
            return NO;
        }
        now = past.removeLast();
        return past.size();
    }

    // ---- cells

    private List<Integer> side(int i, int side, int without) {
        List<Integer> found = new ArrayList<>();
        for (int j = 0; j < now.powers.size(); j++) {
            int far = Math.abs(i - j) - now.look[1];
            boolean here = side == 2 || side == (j < i ? 0 : 1);
            if (here && far >= 1 && far <= now.look[0] && !now.left.get(j) && j != without) {
                found.add(now.powers.get(j));
            }
        }
        Collections.sort(found);
        return found;
    }

    private int rank(List<Integer> sorted) {
        return sorted.isEmpty() ? NONE : sorted.get(Math.min(now.look[2], sorted.size()) - 1);
    }

    private int floor(int i, int without) {
        if (now.mode == 0) {
            return rank(side(i, 2, without));
        }
        List<Integer> ranks = new ArrayList<>(List.of(rank(side(i, 0, without)), rank(side(i, 1, without))));
        ranks.removeIf(r -> r == NONE);
        if (ranks.isEmpty()) {
            return NONE;
        }
        return now.mode == 1 ? Collections.max(ranks) : Collections.min(ranks);
    }

    private boolean alarms(int i, int without, int a) {
        int floor = floor(i, without);
        return !now.left.get(i) && floor != NONE && now.look[4] * now.powers.get(i) > a * floor;
    }

    private boolean alarms(int i) {
        return isCell(i) && alarms(i, NONE, now.look[3]);
    }

    int cell(int i, int what) {
        if (!isCell(i) || !in(what, 0, 6)) {
            return BAD;
        }
        return switch (what) {
            case 0 -> now.powers.get(i);
            case 1 -> now.left.get(i) ? 1 : 0;
            case 2 -> side(i, 0, NONE).size();
            case 3 -> side(i, 1, NONE).size();
            case 4 -> floor(i, NONE);
            case 5 -> alarms(i) ? 1 : 0;
            default -> bunchOf(i);
        };
    }

    int ranked(int i, int side, int k) {
        if (!isCell(i) || !in(side, 0, 2) || k < 1) {
            return BAD;
        }
        List<Integer> found = side(i, side, NONE);
        return k > found.size() ? NONE : found.get(k - 1);
    }

    int hides(int i, int j) {
        if (!isCell(i) || i == j || j != -1 && !isCell(j)) {
            return BAD;
        }
        if (now.left.get(i) || j != -1 && now.left.get(j)) {
            return NO;
        }
        int n = 0;
        for (int k = 0; k < now.powers.size(); k++) {
            if (k != i && (j == -1 || j == k) && !alarms(k) && alarms(k, i, now.look[3])) {
                n++;
            }
        }
        return n;
    }

    // ---- bunches

    private List<int[]> bunches() {
        List<int[]> all = new ArrayList<>();
        for (int i = 0; i < now.powers.size(); i++) {
            if (alarms(i) && !alarms(i - 1)) {
                int last = i;
                while (alarms(last + 1)) {
                    last++;
                }
                List<Integer> part = now.powers.subList(i, last + 1);
                all.add(new int[] {i, last, i + part.indexOf(Collections.max(part))});
            }
        }
        return all;
    }

    private int bunchOf(int i) {
        List<int[]> all = bunches();
        for (int n = 0; n < all.size(); n++) {
            if (in(i, all.get(n)[0], all.get(n)[1])) {
                return n;
            }
        }
        return NONE;
    }

    int bunch(int n, int what) {
        if (n < -1 || !in(what, 0, 2)) {
            return BAD;
        }
        List<int[]> all = bunches();
        if (n == -1) {
            return all.size();
        }
        return n < all.size() ? all.get(n)[what] : NONE;
    }

    private int alarmsBy(int a) {
        int n = 0;
        for (int i = 0; i < now.powers.size(); i++) {
            n += alarms(i, NONE, a) ? 1 : 0;
        }
        return n;
    }

    int enough(int n) {
        if (!in(n, 0, 48)) {
            return BAD;
        }
        int a = 1;
        while (a <= 40 && alarmsBy(a) > n) {
            a++;
        }
        return a > 40 ? NONE : a;
    }

    // ---- odds

    int noise(int v) {
        if (!in(v, 0, 99)) {
            return BAD;
        }
        return v < dice.size() ? dice.get(v) : 0;
    }

    /** The ways of each floor, by going through all heaps of cells that are alike but for their order. */
    private TreeMap<Integer, BigInteger> ranksOf(int cells) {
        TreeMap<Integer, BigInteger> ways = new TreeMap<>();
        addHeaps(ways, 0, cells, BigInteger.ONE, 0, NONE, Math.min(now.look[2], cells));
        return ways;
    }

    private void addHeaps(TreeMap<Integer, BigInteger> ways, int v, int free, BigInteger so, int before, int floor,
        int rank) {
        if (v == dice.size()) {
            if (free == 0) {
                ways.merge(floor, so, BigInteger::add);
            }
            return;
        }
        for (int n = 0; n <= free; n++) {
            BigInteger these = so.multiply(choose(free, n)).multiply(BigInteger.valueOf(dice.get(v)).pow(n));
            if (these.signum() != 0) {
                addHeaps(ways, v + 1, free - n, these, before + n, floor == NONE && before + n >= rank ? v : floor, rank);
            }
        }
    }

    private static BigInteger choose(int n, int k) {
        BigInteger c = BigInteger.ONE;
        for (int j = 0; j < k; j++) {
            c = c.multiply(BigInteger.valueOf(n - j)).divide(BigInteger.valueOf(j + 1));
        }
        return c;
    }

    private TreeMap<Integer, BigInteger> floorWays() {
        if (now.mode == 0) {
            return ranksOf(2 * now.look[0]);
        }
        TreeMap<Integer, BigInteger> side = ranksOf(now.look[0]);
        TreeMap<Integer, BigInteger> ways = new TreeMap<>();
        side.forEach((x, m) -> side.forEach((y, n) ->
            ways.merge(now.mode == 1 ? Math.max(x, y) : Math.min(x, y), m.multiply(n), BigInteger::add)));
        return ways;
    }

    private BigInteger above(TreeMap<Integer, BigInteger> floors, int a) {
        BigInteger sum = BigInteger.ZERO;
        for (int v = 0; v < dice.size(); v++) {
            for (int floor : floors.keySet()) {
                if (now.look[4] * v > a * floor) {
                    sum = sum.add(floors.get(floor).multiply(BigInteger.valueOf(dice.get(v))));
                }
            }
        }
        return sum;
    }

    private BigInteger below() {
        return BigInteger.valueOf(dice.stream().mapToInt(w -> w).sum()).pow(2 * now.look[0] + 1);
    }

    long odds(int part) {
        if (!in(part, 0, 1)) {
            return BAD;
        }
        BigInteger above = above(floorWays(), now.look[3]);
        BigInteger shared = above.gcd(below());
        return (part == 0 ? above : below()).divide(shared).longValueExact();
    }

    int factor(int a, int b) {
        if (!in(a, 1, 1000000) || !in(b, 1, 1000000)) {
            return BAD;
        }
        TreeMap<Integer, BigInteger> floors = floorWays();
        BigInteger most = below().multiply(BigInteger.valueOf(a));
        for (int f = 1; f <= 40; f++) {
            if (above(floors, f).multiply(BigInteger.valueOf(b)).compareTo(most) <= 0) {
                return f;
            }
        }
        return NONE;
    }

    // ---- drawn

    int drawn(int k) {
        if (k < 0) {
            return BAD;
        }
        StringBuilder all = new StringBuilder();
        for (int i = 0; i < now.powers.size(); i++) {
            all.append(now.left.get(i) ? 'x' : alarms(i) ? '!' : '.');
        }
        List<int[]> bunches = bunches();
        bunches.forEach(b -> all.setCharAt(b[2], '^'));
        all.append("=").append(alarmsBy(now.look[3])).append(" ").append(bunches.size());
        return k < all.length() ? all.charAt(k) : NONE;
    }

    int count(int what) {
        if (!in(what, 0, 11)) {
            return BAD;
        }
        if (in(what, 1, 5)) {
            return now.look[what - 1];
        }
        return switch (what) {
            case 0 -> now.powers.size();
            case 6 -> now.mode;
            case 7 -> alarmsBy(now.look[3]);
            case 8 -> bunches().size();
            case 9 -> Collections.frequency(now.left, true);
            case 10 -> past.size();
            default -> text.length();
        };
    }

    private boolean isCell(int i) {
        return in(i, 0, now.powers.size() - 1);
    }

    private static boolean in(int n, int least, int most) {
        return n >= least && n <= most;
    }
}
