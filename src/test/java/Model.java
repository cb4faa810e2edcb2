import java.math.BigInteger;
import java.util.ArrayList;
import java.util.Arrays;
import java.util.List;

/** The document's words taken as they stand, without any care for speed: what MeetingRanks is held against. */
final class Model {
    private static final int NONE = -1;

    private static final class State {
        int n = 1;
        List<int[]> met = new ArrayList<>();
        List<int[]> toCome = new ArrayList<>();
        int[] rule = {2, 1, 0};
        List<Integer> ties = new ArrayList<>();

        State copy() {
            State s = new State();
            s.n = n;
            s.met = new ArrayList<>(met);
            s.toCome = new ArrayList<>(toCome);
            s.rule = rule.clone();
            s.ties = new ArrayList<>(ties);
            return s;
        }
    }

    private State s = new State();
    private final List<State> before = new ArrayList<>();
    private final List<Integer> tape = new ArrayList<>();
    private int[] foundRows = null;
    private long foundFirst = 0;

    private void act() {
        before.add(s.copy());
        if (before.size() > 40) {
            before.remove(0);
        }
        foundRows = null;
    }

    int players() {
        return s.n;
    }

    private boolean is(int player) {
        return 0 <= player && player < s.n;
    }

    int player() {
        if (s.n == 10) {
            return NONE;
        }
        act();
        return s.n++;
    }

    private boolean canMeet(int a, int b, int p, int q) {
        return is(a) && is(b) && a != b && 0 <= p && p <= 99 && 0 <= q && q <= 99 && s.met.size() < 120;
    }

    int meet(int a, int b, int p, int q) {
        if (!canMeet(a, b, p, q)) {
            return NONE;
        }
        act();
        s.met.add(new int[] {a, b, p, q});
        return s.met.size();
    }

    int feed(int a, int b, int c, int d, int e) {
        if (tape.size() + 20 > 480) {
            return NONE;
        }
        for (int word : new int[] {a, b, c, d, e}) {
            for (byte x : BigInteger.valueOf(word & 0xffffffffL).add(BigInteger.ONE.shiftLeft(32)).toByteArray()) {
                tape.add(x & 255);
            }
            tape.remove(tape.size() - 5);
        }
        return tape.size();
    }

    int sheet(int n) {
        if (n < 0 || n > tape.size()) {
            return NONE;
        }
        State old = s.copy();
        int came = 0;
        for (int i = 0; i + 3 < n; i += 4) {
            if (!canMeet(tape.get(i), tape.get(i + 1), tape.get(i + 2), tape.get(i + 3))) {
                break;
            }
            s.met.add(new int[] {tape.get(i), tape.get(i + 1), tape.get(i + 2), tape.get(i + 3)});
            came++;
        }
        tape.clear();
        if (came > 0) {
            State now = s;
            s = old;
            act();
            s = now;
        }
        return came;
    }

    boolean drop(int k) {
        if (k < 0 || k >= s.met.size()) {
            return false;
        }
        act();
        s.met.remove(k);
        return true;
    }

    int next(int a, int b) {
        if (!is(a) || !is(b) || a == b || s.toCome.size() == 40) {
            return NONE;
        }
        act();
        s.toCome.add(new int[] {a, b});
        return s.toCome.size();
    }

    boolean rule(int won, int drawn, int lost) {
        for (int x : new int[] {won, drawn, lost}) {
            if (x < -10 || x > 10) {
                return false;
            }
        }
        act();
        s.rule = new int[] {won, drawn, lost};
        return true;
    }

    int tie(int kind) {
        if (kind < 0 || kind > 5 || s.ties.size() == 4) {
            return NONE;
        }
        act();
        s.ties.add(kind);
        return s.ties.size();
    }

    int ties() {
        int were = s.ties.size();
        act();
        s.ties = new ArrayList<>();
        return were;
    }

    int meeting(int k, int what) {
        return k < 0 || k >= s.met.size() || what < 0 || what > 3 ? NONE : s.met.get(k)[what];
    }

    private int wins(int a, int b) {
        int sum = 0;
        for (int[] m : s.met) {
            if (m[0] == a && m[1] == b && m[2] > m[3] || m[0] == b && m[1] == a && m[3] > m[2]) {
                sum++;
            }
        }
        return sum;
    }

    int over(int a, int b) {
        return !is(a) || !is(b) || a == b ? NONE : wins(a, b);
    }

    private boolean beats(int a, int b) {
        return wins(a, b) > wins(b, a);
    }

    /** SCORE by MEETINGS with those of a set alone. */
    private int scoreAmong(int player, List<Integer> set) {
        int sum = 0;
        for (int[] m : s.met) {
            boolean here = m[0] == player && set.contains(m[1]) || m[1] == player && set.contains(m[0]);
            if (here) {
                int own = m[0] == player ? m[2] : m[3];
                int foes = m[0] == player ? m[3] : m[2];
                sum += own > foes ? s.rule[0] : own == foes ? s.rule[1] : s.rule[2];
            }
        }
        return sum;
    }

    private List<Integer> all() {
        List<Integer> list = new ArrayList<>();
        for (int i = 0; i < s.n; i++) {
            list.add(i);
        }
        return list;
    }

    int score(int player) {
        return is(player) ? scoreAmong(player, all()) : 0;
    }

    private int kindGives(int kind, int player, List<int[]> ahead) {
        if (kind == 5) {
            List<Integer> asGood = new ArrayList<>();
            for (int other : all()) {
                boolean same = true;
                for (int[] key : ahead) {
                    same &= key[other] == key[player];
                }
                if (same) {
                    asGood.add(other);
                }
            }
            return scoreAmong(player, asGood);
        }
        int sum = 0;
        for (int[] m : s.met) {
            for (int side = 0; side < 2; side++) {
                if (m[side] == player) {
                    int own = m[2 + side];
                    int foes = m[3 - side];
                    int foe = m[1 - side];
                    switch (kind) {
                        case 0: sum += own > foes ? 1 : 0; break;
                        case 1: sum += own - foes; break;
                        case 2: sum += own; break;
                        case 3: sum += score(foe); break;
                        default: sum += own > foes ? 2 * score(foe) : own == foes ? score(foe) : 0; break;
                    }
                }
            }
        }
        return sum;
    }

    private int[] scores() {
        int[] key = new int[s.n];
        for (int i = 0; i < s.n; i++) {
            key[i] = score(i);
        }
        return key;
    }

    int number(int kind, int player) {
        if (kind < 0 || kind > 5 || !is(player)) {
            return 0;
        }
        List<int[]> ahead = new ArrayList<>();
        ahead.add(scores());
        return kindGives(kind, player, ahead);
    }

    private List<int[]> keys() {
        List<int[]> keys = new ArrayList<>();
        keys.add(scores());
        for (int kind : s.ties) {
            int[] key = new int[s.n];
            for (int i = 0; i < s.n; i++) {
                key[i] = kindGives(kind, i, keys);
            }
            keys.add(key);
        }
        return keys;
    }

    private static int byKeys(List<int[]> keys, int x, int y) {
        for (int[] key : keys) {
            if (key[x] != key[y]) {
                return key[y] - key[x];
            }
        }
        return 0;
    }

    private List<Integer> ranking(List<int[]> keys) {
        List<Integer> list = all();
        list.sort((x, y) -> byKeys(keys, x, y) != 0 ? byKeys(keys, x, y) : x - y);
        return list;
    }

    int table(int k) {
        return is(k) ? ranking(keys()).get(k) : NONE;
    }

    boolean tied(int k) {
        if (k < 0 || k > s.n - 2) {
            return false;
        }
        List<int[]> keys = keys();
        List<Integer> list = ranking(keys);
        return byKeys(keys, list.get(k), list.get(k + 1)) == 0;
    }

    private boolean reaches(int a, int b, boolean[] seen) {
        if (a == b) {
            return true;
        }
        seen[a] = true;
        for (int[] m : s.met) {
            int on = m[0] == a && m[2] >= m[3] ? m[1] : m[1] == a && m[3] >= m[2] ? m[0] : a;
            if (!seen[on] && reaches(on, b, seen)) {
                return true;
            }
        }
        return false;
    }

    private boolean reaches(int a, int b) {
        return reaches(a, b, new boolean[s.n]);
    }

    private List<List<Integer>> heapsInOrder() {
        List<List<Integer>> open = new ArrayList<>();
        for (int i = 0; i < s.n; i++) {
            List<Integer> mine = null;
            for (List<Integer> heap : open) {
                if (reaches(i, heap.get(0)) && reaches(heap.get(0), i)) {
                    mine = heap;
                }
            }
            if (mine == null) {
                mine = new ArrayList<>();
                open.add(mine);
            }
            mine.add(i);
        }
        List<List<Integer>> numbered = new ArrayList<>();
        while (!open.isEmpty()) {
            List<Integer> next = null;
            for (List<Integer> heap : open) {
                boolean led = false;
                for (List<Integer> other : open) {
                    led |= other != heap && reaches(other.get(0), heap.get(0));
                }
                if (!led && (next == null || heap.get(0) < next.get(0))) {
                    next = heap;
                }
            }
            open.remove(next);
            numbered.add(next);
        }
        return numbered;
    }

    int heaps() {
        return heapsInOrder().size();
    }

    int heap(int player) {
        List<List<Integer>> list = heapsInOrder();
        for (int i = 0; i < list.size(); i++) {
            if (list.get(i).contains(player)) {
                return i;
            }
        }
        return NONE;
    }

    private boolean joined() {
        boolean[] in = new boolean[s.n];
        in[0] = true;
        for (int round = 0; round < s.n; round++) {
            for (int[] m : s.met) {
                boolean one = in[m[0]] || in[m[1]];
                in[m[0]] = one;
                in[m[1]] = one;
            }
        }
        for (boolean x : in) {
            if (!x) {
                return false;
            }
        }
        return true;
    }

    private static BigInteger big(long x) {
        return BigInteger.valueOf(x);
    }

    /** By Cramer's rule, with the determinants written out by their rows. */
    private static BigInteger det(BigInteger[][] m, int row, int usedColumns) {
        int n = m.length;
        if (row == n) {
            return BigInteger.ONE;
        }
        BigInteger sum = BigInteger.ZERO;
        int sign = 1;
        for (int j = 0; j < n; j++) {
            if ((usedColumns >> j & 1) == 0) {
                BigInteger part = m[row][j].multiply(det(m, row + 1, usedColumns | 1 << j));
                sum = sign > 0 ? sum.add(part) : sum.subtract(part);
                sign = -sign;
            }
        }
        return sum;
    }

    private BigInteger[][] equations() {
        BigInteger[][] m = new BigInteger[s.n][s.n];
        for (BigInteger[] row : m) {
            // All ones: this adds the sum, which is to be 0, to each equation, so that just one answer is left.
            Arrays.fill(row, BigInteger.ONE);
        }
        for (int[] x : s.met) {
            m[x[0]][x[0]] = m[x[0]][x[0]].add(BigInteger.ONE);
            m[x[1]][x[1]] = m[x[1]][x[1]].add(BigInteger.ONE);
            m[x[0]][x[1]] = m[x[0]][x[1]].subtract(BigInteger.ONE);
            m[x[1]][x[0]] = m[x[1]][x[0]].subtract(BigInteger.ONE);
        }
        return m;
    }

    long gap(int player, int part) {
        if (!is(player) || part < 0 || part > 1 || s.n > 6 || !joined()) {
            return 0;
        }
        BigInteger[][] m = equations();
        BigInteger below = det(m, 0, 0);
        for (int i = 0; i < s.n; i++) {
            long lead = 0;
            for (int[] x : s.met) {
                lead += x[0] == i ? x[2] - x[3] : x[1] == i ? x[3] - x[2] : 0;
            }
            m[i][player] = big(lead);
        }
        BigInteger above = det(m, 0, 0);
        BigInteger common = above.gcd(below);
        if (below.signum() < 0) {
            common = common.negate();
        }
        return (part == 0 ? above : below).divide(common).longValueExact();
    }

    int cost(long row) {
        String digits = String.valueOf(row);
        StringBuilder filled = new StringBuilder();
        for (int i = digits.length(); i < s.n; i++) {
            filled.append('0');
        }
        digits = filled.append(digits).toString();
        if (row < 0 || digits.length() != s.n) {
            return NONE;
        }
        for (int i = 0; i < s.n; i++) {
            if (digits.indexOf('0' + i) < 0) {
                return NONE;
            }
        }
        int sum = 0;
        for (int[] m : s.met) {
            int a = digits.indexOf('0' + m[0]);
            int b = digits.indexOf('0' + m[1]);
            sum += m[2] > m[3] && a > b || m[2] < m[3] && b > a ? 1 : 0;
        }
        return sum;
    }

    private void findRows() {
        if (foundRows == null) {
            int[][] against = new int[s.n][s.n];
            for (int a = 0; a < s.n; a++) {
                for (int b = 0; b < s.n; b++) {
                    against[a][b] = wins(b, a);
                }
            }
            foundRows = new int[] {Integer.MAX_VALUE, 0};
            goThrough(against, 0, 0, 0L, 0);
        }
    }

    /** All ROWS in the order of their digits, without leaving one out. */
    private void goThrough(int[][] against, int used, int place, long row, int cost) {
        if (place == s.n) {
            if (cost < foundRows[0]) {
                foundRows[0] = cost;
                foundRows[1] = 0;
                foundFirst = row;
            }
            foundRows[1] += cost == foundRows[0] ? 1 : 0;
            return;
        }
        for (int x = 0; x < s.n; x++) {
            if ((used >> x & 1) == 0) {
                int more = 0;
                for (int y = 0; y < s.n; y++) {
                    more += y != x && (used >> y & 1) == 0 ? against[x][y] : 0;
                }
                goThrough(against, used | 1 << x, place + 1, row * 10 + x, cost + more);
            }
        }
    }

    int best() {
        findRows();
        return foundRows[0];
    }

    int rows() {
        findRows();
        return foundRows[1];
    }

    long first() {
        findRows();
        return foundFirst;
    }

    private int unusedWin(boolean[] used, int a, int b) {
        for (int i = 0; i < used.length; i++) {
            int[] m = s.met.get(i);
            boolean won = m[0] == a && m[1] == b && m[2] > m[3] || m[0] == b && m[1] == a && m[3] > m[2];
            if (won && !used[i]) {
                return i;
            }
        }
        return NONE;
    }

    private boolean useRing(boolean[] used, int a, int b, int c) {
        int x = unusedWin(used, a, b);
        int y = unusedWin(used, b, c);
        int z = unusedWin(used, c, a);
        if (x < 0 || y < 0 || z < 0) {
            return false;
        }
        used[x] = true;
        used[y] = true;
        used[z] = true;
        return true;
    }

    int bound() {
        boolean[] used = new boolean[s.met.size()];
        int sum = 0;
        for (int a = 0; a < s.n; a++) {
            for (int b = a + 1; b < s.n; b++) {
                for (int c = b + 1; c < s.n; c++) {
                    while (useRing(used, a, b, c)) {
                        sum++;
                    }
                    while (useRing(used, a, c, b)) {
                        sum++;
                    }
                }
            }
        }
        return sum;
    }

    private boolean[][] beating() {
        boolean[][] m = new boolean[s.n][s.n];
        for (int a = 0; a < s.n; a++) {
            for (int b = 0; b < s.n; b++) {
                m[a][b] = beats(a, b);
            }
        }
        return m;
    }

    int core() {
        boolean[][] beats = beating();
        int core = (1 << s.n) - 1;
        for (int set = 1; set < 1 << s.n; set++) {
            boolean holds = true;
            for (int a = 0; a < s.n; a++) {
                for (int b = 0; b < s.n; b++) {
                    if ((set >> a & 1) == 1 && (set >> b & 1) == 0) {
                        holds &= beats[a][b];
                    }
                }
            }
            if (holds && Integer.bitCount(set) < Integer.bitCount(core)) {
                core = set;
            }
        }
        return core;
    }

    int champion() {
        for (int a = 0; a < s.n; a++) {
            boolean is = true;
            for (int b = 0; b < s.n; b++) {
                is &= a == b || beats(a, b);
            }
            if (is) {
                return a;
            }
        }
        return NONE;
    }

    private int walksOn(boolean[][] beats, int used, int last) {
        if (used == (1 << s.n) - 1) {
            return 1;
        }
        int sum = 0;
        for (int x = 0; x < s.n; x++) {
            if ((used >> x & 1) == 0 && (last < 0 || beats[last][x])) {
                sum += walksOn(beats, used | 1 << x, x);
            }
        }
        return sum;
    }

    int walks() {
        return walksOn(beating(), 0, -1);
    }

    private int[] has() {
        int[] has = new int[s.n];
        for (int[] m : s.met) {
            has[m[0]] += m[2] > m[3] ? 2 : m[2] == m[3] ? 1 : 0;
            has[m[1]] += m[2] < m[3] ? 2 : m[2] == m[3] ? 1 : 0;
        }
        return has;
    }

    /** Tries every way in which what is TO COME can go. */
    private boolean mayByTrying(int player, int[] has, int game) {
        if (game == s.toCome.size()) {
            for (int x : has) {
                if (x > has[player]) {
                    return false;
                }
            }
            return true;
        }
        int[] g = s.toCome.get(game);
        for (int a = 0; a <= 2; a++) {
            has[g[0]] += a;
            has[g[1]] += 2 - a;
            boolean can = mayByTrying(player, has, game + 1);
            has[g[0]] -= a;
            has[g[1]] -= 2 - a;
            if (can) {
                return true;
            }
        }
        return false;
    }

    private int limit(int player, int[] has) {
        int limit = has[player];
        for (int[] g : s.toCome) {
            limit += g[0] == player || g[1] == player ? 2 : 0;
        }
        return limit;
    }

    /** Gives out the points one by one, moving those already given where that helps. */
    private boolean mayByFlow(int player) {
        int[] has = has();
        int limit = limit(player, has);
        List<int[]> units = new ArrayList<>();
        for (int[] g : s.toCome) {
            if (g[0] != player && g[1] != player) {
                units.add(g);
                units.add(g);
            }
        }
        for (int x : has) {
            if (x > limit) {
                return false;
            }
        }
        int[] owner = new int[units.size()];
        Arrays.fill(owner, -1);
        for (int u = 0; u < owner.length; u++) {
            if (!place(u, units, owner, has, limit, new boolean[s.n])) {
                return false;
            }
        }
        return true;
    }

    private boolean place(int u, List<int[]> units, int[] owner, int[] has, int limit, boolean[] tried) {
        for (int x : units.get(u)) {
            if (!tried[x]) {
                tried[x] = true;
                if (has[x] < limit) {
                    has[x]++;
                    owner[u] = x;
                    return true;
                }
                for (int v = 0; v < owner.length; v++) {
                    if (owner[v] == x && place(v, units, owner, has, limit, tried)) {
                        owner[u] = x;
                        return true;
                    }
                }
            }
        }
        return false;
    }

    int may(int player) {
        if (!is(player)) {
            return NONE;
        }
        boolean can = s.toCome.size() <= 7 ? mayByTrying(player, has(), 0) : mayByFlow(player);
        return can ? 1 : 0;
    }

    int why(int player) {
        if (!is(player)) {
            return NONE;
        }
        if (may(player) == 1) {
            return 0;
        }
        int[] has = has();
        int limit = limit(player, has);
        for (int set = 1; set < 1 << s.n; set++) {
            int allowed = 0;
            int sure = 0;
            for (int x = 0; x < s.n; x++) {
                if ((set >> x & 1) == 1) {
                    allowed += limit;
                    sure += has[x];
                }
            }
            for (int[] g : s.toCome) {
                sure += (set >> g[0] & 1) == 1 && (set >> g[1] & 1) == 1 ? 2 : 0;
            }
            if ((set >> player & 1) == 0 && allowed < sure) {
                return set;
            }
        }
        throw new IllegalStateException("one who may not come first, and no set says why");
    }

    int undo(int n) {
        if (n < 0 || n > before.size()) {
            return NONE;
        }
        for (int i = 0; i < n; i++) {
            s = before.remove(before.size() - 1);
        }
        foundRows = null;
        return n;
    }

    int about(int what) {
        switch (what) {
            case 0: return s.n;
            case 1: return s.met.size();
            case 2: return s.toCome.size();
            case 3: return s.ties.size();
            case 4: return before.size();
            case 5: return tape.size();
            case 6: return joined() ? 1 : 0;
            default: return NONE;
        }
    }
}
