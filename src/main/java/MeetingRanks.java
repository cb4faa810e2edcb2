import java.util.Arrays;

/** Tells who is best from who met whom. The promises are numbered in the document. */
public final class MeetingRanks {
    public static final int NONE = -1;

    private static final int MOST_PLAYERS = 10;
    private static final int MOST_MEETINGS = 120;
    private static final int MOST_POINTS = 99;
    private static final int MOST_WORTH = 10;
    private static final int MOST_BYTES = 480;
    private static final int MOST_TO_COME = 40;
    private static final int MOST_TIES = 4;
    private static final int MOST_ACTS = 40;
    private static final int MOST_FOR_GAPS = 6;

    private static final int PAIRS = MOST_PLAYERS * MOST_PLAYERS;
    private static final int SETS = 1 << MOST_PLAYERS;
    private static final int MEETING_PARTS = 4;

    private static final int KIND_WINS = 0;
    private static final int KIND_LEAD = 1;
    private static final int KIND_POINTS = 2;
    private static final int KIND_FOES = 3;
    private static final int KIND_BEATEN = 4;
    private static final int KIND_AMONG = 5;
    private static final int KINDS = 6;

    private static final int ACT_PLAYER = 0;
    private static final int ACT_CAME = 1;
    private static final int ACT_DROP = 2;
    private static final int ACT_NEXT = 3;
    private static final int ACT_RULE = 4;
    private static final int ACT_TIE = 5;
    private static final int ACT_TIES = 6;

    private final Meetings meetings = new Meetings();
    private final Tape tape = new Tape();
    private final ToCome toCome = new ToCome();
    private final Acts acts = new Acts();
    private final Standings standings = new Standings();
    private final HeapSearch heapSearch = new HeapSearch();
    private final GapSolver gapSolver = new GapSolver();
    private final RowSearch rowSearch = new RowSearch();
    private final Beating beating = new Beating();
    private int players = 1;

    public MeetingRanks() {
    }

    public int player() {
        if (players >= MOST_PLAYERS) {
            return NONE;
        }
        players++;
        acts.put(ACT_PLAYER, 0, 0, 0, 0, 0);
        return players - 1;
    }

    public int meet(int a, int b, int p, int q) {
        if (!canMeet(a, b, p, q)) {
            return NONE;
        }
        meetings.append(a, b, p, q);
        acts.put(ACT_CAME, 1, 0, 0, 0, 0);
        return meetings.count();
    }

    public int feed(int a, int b, int c, int d, int e) {
        if (!tape.hasRoomForFeed()) {
            return NONE;
        }
        tape.append(a);
        tape.append(b);
        tape.append(c);
        tape.append(d);
        tape.append(e);
        return tape.size();
    }

    public int sheet(int n) {
        if (n < 0 || n > tape.size()) {
            return NONE;
        }
        int came = readMeetings(n);
        tape.empty();
        if (came > 0) {
            acts.put(ACT_CAME, came, 0, 0, 0, 0);
        }
        return came;
    }

    public boolean drop(int k) {
        if (!meetings.has(k)) {
            return false;
        }
        acts.put(ACT_DROP, k, meetings.part(k, 0), meetings.part(k, 1), meetings.part(k, 2), meetings.part(k, 3));
        meetings.remove(k);
        return true;
    }

    public int next(int a, int b) {
        if (!areTwo(a, b) || toCome.count() >= MOST_TO_COME) {
            return NONE;
        }
        toCome.change(a, b, 1);
        acts.put(ACT_NEXT, a, b, 0, 0, 0);
        return toCome.count();
    }

    public boolean rule(int won, int drawn, int lost) {
        if (!canBeWorth(won) || !canBeWorth(drawn) || !canBeWorth(lost)) {
            return false;
        }
        acts.put(ACT_RULE, standings.worthWon(), standings.worthDrawn(), standings.worthLost(), 0, 0);
        standings.setWorth(won, drawn, lost);
        return true;
    }

    public int tie(int kind) {
        if (!isKind(kind) || standings.kindCount() >= MOST_TIES) {
            return NONE;
        }
        standings.addKind(kind);
        acts.put(ACT_TIE, 0, 0, 0, 0, 0);
        return standings.kindCount();
    }

    public int ties() {
        int before = standings.kindCount();
        acts.put(ACT_TIES, before, standings.kindAt(0), standings.kindAt(1), standings.kindAt(2), standings.kindAt(3));
        standings.keepKinds(0);
        return before;
    }

    public int meeting(int k, int what) {
        return meetings.part(k, what);
    }

    public int over(int a, int b) {
        return areTwo(a, b) ? meetings.wins(a, b) : NONE;
    }

    public int score(int player) {
        if (!isPlayer(player)) {
            return 0;
        }
        standings.fillScores(meetings, players);
        return standings.keyOf(0, player);
    }

    public int number(int kind, int player) {
        if (!isKind(kind) || !isPlayer(player)) {
            return 0;
        }
        standings.fillScores(meetings, players);
        standings.fillKey(meetings, players, kind, 1);
        return standings.keyOf(1, player);
    }

    public int table(int k) {
        if (!isPlayer(k)) {
            return NONE;
        }
        standings.arrange(meetings, players);
        return standings.playerAt(k);
    }

    public boolean tied(int k) {
        if (!isPlayer(k) || k == players - 1) {
            return false;
        }
        standings.arrange(meetings, players);
        return standings.isTiedWithNext(k);
    }

    public int heaps() {
        return heapSearch.split(meetings, players);
    }

    public int heap(int player) {
        if (!isPlayer(player)) {
            return NONE;
        }
        heapSearch.split(meetings, players);
        return heapSearch.heapOf(player);
    }

    public long gap(int player, int part) {
        boolean canBeAsked = isPlayer(player) && (part == 0 || part == 1)
                && players <= MOST_FOR_GAPS && meetings.joinAll(players);
        if (!canBeAsked || !gapSolver.solve(meetings, players)) {
            return 0;
        }
        return part == 0 ? gapSolver.numerator(players, player) : gapSolver.denominator(players, player);
    }

    public int cost(long row) {
        return rowSearch.costOf(meetings, players, row);
    }

    public int best() {
        rowSearch.search(meetings, players);
        return rowSearch.leastCost(players);
    }

    public int rows() {
        rowSearch.search(meetings, players);
        return rowSearch.howMany(players);
    }

    public long first() {
        rowSearch.search(meetings, players);
        return rowSearch.leastRow(meetings, players);
    }

    public int bound() {
        return beating.countRings(meetings, players);
    }

    public int core() {
        return beating.leastCore(meetings, players);
    }

    public int champion() {
        return beating.findChampion(meetings, players);
    }

    public int walks() {
        return beating.countWalks(meetings, players);
    }

    public int may(int player) {
        if (!isPlayer(player)) {
            return NONE;
        }
        return toCome.leastHindrance(meetings, players, player) == 0 ? 1 : 0;
    }

    public int why(int player) {
        return isPlayer(player) ? toCome.leastHindrance(meetings, players, player) : NONE;
    }

    public int undo(int n) {
        if (n < 0 || n > acts.size()) {
            return NONE;
        }
        for (int i = 0; i < n; i++) {
            undoLatest();
            acts.forgetLatest();
        }
        return n;
    }

    public int about(int what) {
        switch (what) {
            case 0: return players;
            case 1: return meetings.count();
            case 2: return toCome.count();
            case 3: return standings.kindCount();
            case 4: return acts.size();
            case 5: return tape.size();
            case 6: return meetings.joinAll(players) ? 1 : 0;
            default: return NONE;
        }
    }

    private boolean isPlayer(int player) {
        return player >= 0 && player < players;
    }

    private boolean areTwo(int a, int b) {
        return isPlayer(a) && isPlayer(b) && a != b;
    }

    private boolean canMeet(int a, int b, int p, int q) {
        return areTwo(a, b) && canBePoints(p) && canBePoints(q) && meetings.count() < MOST_MEETINGS;
    }

    private static boolean canBePoints(int points) {
        return points >= 0 && points <= MOST_POINTS;
    }

    private static boolean canBeWorth(int worth) {
        return worth >= -MOST_WORTH && worth <= MOST_WORTH;
    }

    private static boolean isKind(int kind) {
        return kind >= 0 && kind < KINDS;
    }

    private int readMeetings(int bytes) {
        int came = 0;
        for (int at = 0; at + MEETING_PARTS <= bytes; at += MEETING_PARTS) {
            int a = tape.at(at);
            int b = tape.at(at + 1);
            int p = tape.at(at + 2);
            int q = tape.at(at + 3);
            if (!canMeet(a, b, p, q)) {
                break;
            }
            meetings.append(a, b, p, q);
            came++;
        }
        return came;
    }

    private void undoLatest() {
        switch (acts.latest(0)) {
            case ACT_PLAYER:
                players--;
                break;
            case ACT_CAME:
                meetings.removeLast(acts.latest(1));
                break;
            case ACT_DROP:
                meetings.insert(acts.latest(1), acts.latest(2), acts.latest(3), acts.latest(4), acts.latest(5));
                break;
            case ACT_NEXT:
                toCome.change(acts.latest(1), acts.latest(2), -1);
                break;
            case ACT_RULE:
                standings.setWorth(acts.latest(1), acts.latest(2), acts.latest(3));
                break;
            case ACT_TIE:
                standings.keepKinds(standings.kindCount() - 1);
                break;
            case ACT_TIES:
                bringBackKinds();
                break;
            default:
                break;
        }
    }

    private void bringBackKinds() {
        int before = acts.latest(1);
        standings.keepKinds(0);
        for (int i = 0; i < before; i++) {
            standings.addKind(acts.latest(2 + i));
        }
    }

    private static boolean isIn(int set, int player) {
        return (set >> player & 1) != 0;
    }

    private static int everyone(int n) {
        return (1 << n) - 1;
    }

    /** The MEETINGS in their order, and for each two PLAYERS the sums of what came of theirs. */
    private static final class Meetings {
        private final int[] parts = new int[MOST_MEETINGS * MEETING_PARTS];
        private final int[] wins = new int[PAIRS];
        private final int[] draws = new int[PAIRS];
        private final int[] points = new int[PAIRS];
        private int count = 0;
        private int changes = 0;

        int count() {
            return count;
        }

        /** Grows with each change, so that others can see that what they worked out still holds. */
        int changes() {
            return changes;
        }

        boolean has(int k) {
            return k >= 0 && k < count;
        }

        int part(int k, int what) {
            if (!has(k) || what < 0 || what >= MEETING_PARTS) {
                return NONE;
            }
            return parts[k * MEETING_PARTS + what];
        }

        int wins(int a, int b) {
            return wins[a * MOST_PLAYERS + b];
        }

        int draws(int a, int b) {
            return draws[a * MOST_PLAYERS + b];
        }

        int points(int a, int b) {
            return points[a * MOST_PLAYERS + b];
        }

        int times(int a, int b) {
            return wins(a, b) + draws(a, b) + wins(b, a);
        }

        void append(int a, int b, int p, int q) {
            insert(count, a, b, p, q);
        }

        void insert(int k, int a, int b, int p, int q) {
            if (count >= MOST_MEETINGS || k < 0 || k > count) {
                return;
            }
            int at = k * MEETING_PARTS;
            System.arraycopy(parts, at, parts, at + MEETING_PARTS, (count - k) * MEETING_PARTS);
            parts[at] = a;
            parts[at + 1] = b;
            parts[at + 2] = p;
            parts[at + 3] = q;
            count++;
            tally(k, 1);
        }

        void remove(int k) {
            if (!has(k)) {
                return;
            }
            tally(k, -1);
            int at = k * MEETING_PARTS;
            System.arraycopy(parts, at + MEETING_PARTS, parts, at, (count - k - 1) * MEETING_PARTS);
            count--;
        }

        void removeLast(int many) {
            for (int i = 0; i < many; i++) {
                remove(count - 1);
            }
        }

        boolean joinAll(int n) {
            int joined = 1;
            // Each round but the last joins one at least, so n rounds are enough.
            for (int round = 0; round < n; round++) {
                for (int a = 0; a < n; a++) {
                    if (isIn(joined, a)) {
                        joined |= foesOf(a, n);
                    }
                }
            }
            return joined == everyone(n);
        }

        private int foesOf(int a, int n) {
            int foes = 0;
            for (int b = 0; b < n; b++) {
                if (times(a, b) > 0) {
                    foes |= 1 << b;
                }
            }
            return foes;
        }

        private void tally(int k, int sign) {
            int at = k * MEETING_PARTS;
            int ab = parts[at] * MOST_PLAYERS + parts[at + 1];
            int ba = parts[at + 1] * MOST_PLAYERS + parts[at];
            int p = parts[at + 2];
            int q = parts[at + 3];
            points[ab] += sign * p;
            points[ba] += sign * q;
            if (p > q) {
                wins[ab] += sign;
            } else if (p < q) {
                wins[ba] += sign;
            } else {
                draws[ab] += sign;
                draws[ba] += sign;
            }
            changes++;
        }
    }

    /** The bytes that wait to be read as MEETINGS. */
    private static final class Tape {
        private static final int FEED_BYTES = 20;

        private final byte[] bytes = new byte[MOST_BYTES];
        private int size = 0;

        int size() {
            return size;
        }

        boolean hasRoomForFeed() {
            return size + FEED_BYTES <= MOST_BYTES;
        }

        void append(int word) {
            for (int shift = 24; shift >= 0 && size < MOST_BYTES; shift -= 8) {
                bytes[size] = (byte) (word >> shift);
                size++;
            }
        }

        int at(int i) {
            return i >= 0 && i < size ? bytes[i] & 255 : NONE;
        }

        void empty() {
            size = 0;
        }
    }

    /** The last acts, each with what is needed to undo it; the oldest gives way. */
    private static final class Acts {
        private static final int ACT_PARTS = 6;

        private final int[] parts = new int[MOST_ACTS * ACT_PARTS];
        private int end = 0;
        private int size = 0;

        int size() {
            return size;
        }

        void put(int act, int v1, int v2, int v3, int v4, int v5) {
            int at = end * ACT_PARTS;
            parts[at] = act;
            parts[at + 1] = v1;
            parts[at + 2] = v2;
            parts[at + 3] = v3;
            parts[at + 4] = v4;
            parts[at + 5] = v5;
            end = end == MOST_ACTS - 1 ? 0 : end + 1;
            size = Math.min(size + 1, MOST_ACTS);
        }

        int latest(int part) {
            if (size == 0 || part < 0 || part >= ACT_PARTS) {
                return NONE;
            }
            return parts[latestPlace() * ACT_PARTS + part];
        }

        void forgetLatest() {
            if (size > 0) {
                end = latestPlace();
                size--;
            }
        }

        private int latestPlace() {
            return end == 0 ? MOST_ACTS - 1 : end - 1;
        }
    }

    /** The RULE, the TIES, and THE TABLE by them. */
    private static final class Standings {
        private final int[] kinds = new int[MOST_TIES];
        // Row 0 holds the SCORES; row t + 1 what the TIES' t-th KIND gives.
        private final int[] keys = new int[(1 + MOST_TIES) * MOST_PLAYERS];
        private final int[] places = new int[MOST_PLAYERS];
        private int kindCount = 0;
        private int worthWon = 2;
        private int worthDrawn = 1;
        private int worthLost = 0;

        int worthWon() {
            return worthWon;
        }

        int worthDrawn() {
            return worthDrawn;
        }

        int worthLost() {
            return worthLost;
        }

        void setWorth(int won, int drawn, int lost) {
            worthWon = won;
            worthDrawn = drawn;
            worthLost = lost;
        }

        int kindCount() {
            return kindCount;
        }

        int kindAt(int t) {
            return t >= 0 && t < kindCount ? kinds[t] : NONE;
        }

        void addKind(int kind) {
            if (kindCount < MOST_TIES) {
                kinds[kindCount] = kind;
                kindCount++;
            }
        }

        void keepKinds(int many) {
            kindCount = Math.max(0, Math.min(many, kindCount));
        }

        int keyOf(int row, int player) {
            return keys[row * MOST_PLAYERS + player];
        }

        int playerAt(int k) {
            return places[k];
        }

        boolean isTiedWithNext(int k) {
            return compareKeys(places[k], places[k + 1], 1 + kindCount) == 0;
        }

        void arrange(Meetings met, int n) {
            fillScores(met, n);
            for (int t = 0; t < kindCount; t++) {
                fillKey(met, n, kinds[t], t + 1);
            }
            for (int player = 0; player < n; player++) {
                putInPlace(player);
            }
        }

        void fillScores(Meetings met, int n) {
            for (int a = 0; a < n; a++) {
                int sum = 0;
                for (int b = 0; b < n; b++) {
                    sum += worth(met, a, b);
                }
                keys[a] = sum;
            }
        }

        /** Fills a row of keys from those above it. */
        void fillKey(Meetings met, int n, int kind, int row) {
            for (int a = 0; a < n; a++) {
                int sum = 0;
                for (int b = 0; b < n; b++) {
                    sum += share(met, kind, a, b, row);
                }
                keys[row * MOST_PLAYERS + a] = sum;
            }
        }

        /** What a's MEETINGS with b add to a's SCORE. */
        private int worth(Meetings met, int a, int b) {
            return worthWon * met.wins(a, b) + worthDrawn * met.draws(a, b) + worthLost * met.wins(b, a);
        }

        /** What a's MEETINGS with b add to a's number by a KIND; the rows of keys above this one are filled. */
        private int share(Meetings met, int kind, int a, int b, int row) {
            switch (kind) {
                case KIND_WINS: return met.wins(a, b);
                case KIND_LEAD: return met.points(a, b) - met.points(b, a);
                case KIND_POINTS: return met.points(a, b);
                case KIND_FOES: return met.times(a, b) * keys[b];
                case KIND_BEATEN: return (2 * met.wins(a, b) + met.draws(a, b)) * keys[b];
                case KIND_AMONG: return compareKeys(a, b, row) == 0 ? worth(met, a, b) : 0;
                default: return 0;
            }
        }

        private int compareKeys(int x, int y, int rowCount) {
            for (int row = 0; row < rowCount; row++) {
                int order = Integer.compare(keyOf(row, x), keyOf(row, y));
                if (order != 0) {
                    return order;
                }
            }
            return 0;
        }

        /** PLAYERS come by their numbers, so one who is as good as another stays behind it. */
        private void putInPlace(int player) {
            int at = player;
            while (at > 0 && compareKeys(player, places[at - 1], 1 + kindCount) > 0) {
                places[at] = places[at - 1];
                at--;
            }
            places[at] = player;
        }
    }

    /** Who REACHES whom, and the HEAPS by that. */
    private static final class HeapSearch {
        private final int[] reached = new int[MOST_PLAYERS];
        private final int[] heapNumbers = new int[MOST_PLAYERS];

        int heapOf(int player) {
            return heapNumbers[player];
        }

        /** Numbers all HEAPS: how many there are. */
        int split(Meetings met, int n) {
            fillReached(met, n);
            int numbered = 0;
            int many = 0;
            for (int round = 0; round < n && numbered != everyone(n); round++) {
                int player = leastUnled(n, numbered);
                numbered |= numberHeapOf(player, n, many);
                many++;
            }
            return many;
        }

        private void fillReached(Meetings met, int n) {
            for (int a = 0; a < n; a++) {
                reached[a] = 1 << a;
                for (int b = 0; b < n; b++) {
                    if (met.wins(a, b) + met.draws(a, b) > 0) {
                        reached[a] |= 1 << b;
                    }
                }
            }
            for (int by = 0; by < n; by++) {
                for (int a = 0; a < n; a++) {
                    if (isIn(reached[a], by)) {
                        reached[a] |= reached[by];
                    }
                }
            }
        }

        private int leastUnled(int n, int numbered) {
            for (int player = 0; player < n; player++) {
                if (!isIn(numbered, player) && !isLed(player, n, numbered)) {
                    return player;
                }
            }
            // Never so: LEADS has no ring, so while one has no number, one is led by none such.
            return 0;
        }

        private boolean isLed(int player, int n, int numbered) {
            for (int other = 0; other < n; other++) {
                boolean leads = isIn(reached[other], player) && !isIn(reached[player], other);
                if (leads && !isIn(numbered, other)) {
                    return true;
                }
            }
            return false;
        }

        private int numberHeapOf(int player, int n, int heapNumber) {
            int members = 0;
            for (int other = 0; other < n; other++) {
                if (isIn(reached[other], player) && isIn(reached[player], other)) {
                    heapNumbers[other] = heapNumber;
                    members |= 1 << other;
                }
            }
            return members;
        }
    }

    /**
     * GAPS, by the equations of least squares with PLAYER 0 held at 0, which are then moved to the sum 0.
     * All numbers on the way are minors of whole numbers: of 5 rows and 120 MEETINGS they stay below 2^63.
     */
    private static final class GapSolver {
        private static final int WIDTH = MOST_FOR_GAPS;

        // Row and column i are of PLAYER i + 1; the last column in use is the right side.
        private final long[] cells = new long[(MOST_FOR_GAPS - 1) * WIDTH];
        private long determinant = 1;

        /** False if there is no single answer. */
        boolean solve(Meetings met, int n) {
            int size = n - 1;
            for (int i = 0; i < size; i++) {
                fillRow(met, n, i);
            }
            determinant = 1;
            for (int k = 0; k < size; k++) {
                if (!clearColumn(size, k)) {
                    return false;
                }
            }
            return determinant > 0;
        }

        long numerator(int n, int player) {
            return top(n, player) / commonPart(n, player);
        }

        long denominator(int n, int player) {
            return n * determinant / commonPart(n, player);
        }

        private void fillRow(Meetings met, int n, int i) {
            int player = i + 1;
            int degree = 0;
            int lead = 0;
            for (int other = 0; other < n; other++) {
                degree += met.times(player, other);
                lead += met.points(player, other) - met.points(other, player);
                if (other > 0) {
                    cells[i * WIDTH + other - 1] = -met.times(player, other);
                }
            }
            cells[i * WIDTH + i] = degree;
            cells[i * WIDTH + n - 1] = lead;
        }

        /** A step that leaves whole numbers: the division by the pivot before has no rest. */
        private boolean clearColumn(int size, int k) {
            long before = determinant;
            long pivot = cells[k * WIDTH + k];
            if (before == 0 || pivot == 0) {
                return false;
            }
            for (int i = 0; i < size; i++) {
                if (i != k) {
                    long factor = cells[i * WIDTH + k];
                    for (int j = 0; j <= size; j++) {
                        long crossed = pivot * cells[i * WIDTH + j] - factor * cells[k * WIDTH + j];
                        cells[i * WIDTH + j] = crossed / before;
                    }
                }
            }
            determinant = pivot;
            return true;
        }

        /** The numerator over n times the determinant. */
        private long top(int n, int player) {
            long sum = 0;
            for (int i = 0; i < n - 1; i++) {
                sum += cells[i * WIDTH + n - 1];
            }
            long own = player == 0 ? 0 : cells[(player - 1) * WIDTH + n - 1];
            return n * own - sum;
        }

        /** Never 0. */
        private long commonPart(int n, int player) {
            long x = Math.abs(top(n, player));
            long y = n * determinant;
            // Two steps halve x at least, so 130 are more than enough for 63 bits.
            for (int step = 0; step < 130 && x != 0; step++) {
                long rest = y % x;
                y = x;
                x = rest;
            }
            return y == 0 ? 1 : y;
        }
    }

    /** ROWS: their COST, and by sets of PLAYERS those of the least. */
    private static final class RowSearch {
        // A COST counts MEETINGS, each once at most.
        private static final int ABOVE_ALL_COSTS = MOST_MEETINGS + 1;

        // Of all orders of a set: the least COST among its own, and how many have it.
        private final int[] least = new int[SETS];
        private final int[] many = new int[SETS];
        private int seenChanges = NONE;
        private int seenPlayers = NONE;

        int leastCost(int n) {
            return least[everyone(n)];
        }

        int howMany(int n) {
            return many[everyone(n)];
        }

        void search(Meetings met, int n) {
            if (seenChanges == met.changes() && seenPlayers == n) {
                return;
            }
            least[0] = 0;
            many[0] = 1;
            for (int set = 1; set <= everyone(n); set++) {
                settle(met, n, set);
            }
            seenChanges = met.changes();
            seenPlayers = n;
        }

        /** Goes by what search has found. */
        long leastRow(Meetings met, int n) {
            long row = 0;
            int set = everyone(n);
            for (int place = 0; place < n; place++) {
                int player = leastHead(met, n, set);
                row = row * 10 + player;
                set &= ~(1 << player);
            }
            return row;
        }

        int costOf(Meetings met, int n, long row) {
            if (row < 0) {
                return NONE;
            }
            long digits = row;
            int behind = 0;
            int sum = 0;
            for (int place = 0; place < n; place++) {
                int player = (int) (digits % 10);
                digits /= 10;
                if (player >= n || isIn(behind, player)) {
                    return NONE;
                }
                sum += costAhead(met, n, player, behind);
                behind |= 1 << player;
            }
            return digits == 0 ? sum : NONE;
        }

        private void settle(Meetings met, int n, int set) {
            int lowest = ABOVE_ALL_COSTS;
            int ways = 0;
            for (int head = 0; head < n; head++) {
                if (isIn(set, head)) {
                    int rest = set & ~(1 << head);
                    int sum = least[rest] + costAhead(met, n, head, rest);
                    if (sum < lowest) {
                        lowest = sum;
                        ways = 0;
                    }
                    if (sum == lowest) {
                        ways += many[rest];
                    }
                }
            }
            least[set] = lowest;
            many[set] = ways;
        }

        private int leastHead(Meetings met, int n, int set) {
            for (int head = 0; head < n; head++) {
                int rest = set & ~(1 << head);
                if (rest != set && least[rest] + costAhead(met, n, head, rest) == least[set]) {
                    return head;
                }
            }
            // Never so: a set's least COST is that of one of its heads.
            return 0;
        }

        /** How many MEETINGS go against a PLAYER's standing ahead of these. */
        private int costAhead(Meetings met, int n, int player, int behind) {
            int sum = 0;
            for (int other = 0; other < n; other++) {
                if (isIn(behind, other)) {
                    sum += met.wins(other, player);
                }
            }
            return sum;
        }
    }

    /** What hangs on who BEATS whom: RINGS, the CORE, the CHAMPION, WALKS. */
    private static final class Beating {
        private final int[] beaten = new int[MOST_PLAYERS];
        private final int[] unused = new int[PAIRS];
        // By a set and the last one of it: how many WALKS of the set end there. It is two thirds of an object's
        // room, and all objects of a run share one, so it is made when WALKS are first asked for, and kept.
        private int[] ways = new int[0];

        int countRings(Meetings met, int n) {
            for (int a = 0; a < n; a++) {
                for (int b = 0; b < n; b++) {
                    unused[a * MOST_PLAYERS + b] = met.wins(a, b);
                }
            }
            int sum = 0;
            for (int a = 0; a < n; a++) {
                for (int b = a + 1; b < n; b++) {
                    for (int c = b + 1; c < n; c++) {
                        sum += useRings(a, b, c);
                        sum += useRings(b, a, c);
                    }
                }
            }
            return sum;
        }

        int leastCore(Meetings met, int n) {
            fillBeaten(met, n);
            int core = everyone(n);
            for (int player = 0; player < n; player++) {
                int set = leastUnbeaten(player, n);
                if (Integer.bitCount(set) < Integer.bitCount(core)) {
                    core = set;
                }
            }
            return core;
        }

        int findChampion(Meetings met, int n) {
            fillBeaten(met, n);
            for (int player = 0; player < n; player++) {
                if ((beaten[player] | 1 << player) == everyone(n)) {
                    return player;
                }
            }
            return NONE;
        }

        int countWalks(Meetings met, int n) {
            fillBeaten(met, n);
            clearWays();
            for (int player = 0; player < n; player++) {
                ways[(1 << player) * MOST_PLAYERS + player] = 1;
            }
            for (int set = 1; set < everyone(n); set++) {
                for (int last = 0; last < n; last++) {
                    goOn(n, set, last);
                }
            }
            int sum = 0;
            for (int last = 0; last < n; last++) {
                sum += ways[everyone(n) * MOST_PLAYERS + last];
            }
            return sum;
        }

        private void clearWays() {
            if (ways.length == 0) {
                ways = new int[SETS * MOST_PLAYERS];
            } else {
                Arrays.fill(ways, 0);
            }
        }

        private void fillBeaten(Meetings met, int n) {
            for (int a = 0; a < n; a++) {
                beaten[a] = 0;
                for (int b = 0; b < n; b++) {
                    if (met.wins(a, b) > met.wins(b, a)) {
                        beaten[a] |= 1 << b;
                    }
                }
            }
        }

        /** Uses MEETINGS won by x over y, y over z, z over x. */
        private int useRings(int x, int y, int z) {
            int xy = x * MOST_PLAYERS + y;
            int yz = y * MOST_PLAYERS + z;
            int zx = z * MOST_PLAYERS + x;
            int used = Math.min(unused[xy], Math.min(unused[yz], unused[zx]));
            unused[xy] -= used;
            unused[yz] -= used;
            unused[zx] -= used;
            return used;
        }

        /** The least set with this PLAYER each of which BEATS each outside it. */
        private int leastUnbeaten(int player, int n) {
            int set = 1 << player;
            // Each round but the last adds one at least, so n rounds are enough.
            for (int round = 0; round < n; round++) {
                for (int a = 0; a < n; a++) {
                    if (isIn(set, a)) {
                        set |= everyone(n) & ~beaten[a];
                    }
                }
            }
            return set;
        }

        private void goOn(int n, int set, int last) {
            int many = ways[set * MOST_PLAYERS + last];
            int open = beaten[last] & ~set;
            if (many == 0 || open == 0) {
                return;
            }
            for (int player = 0; player < n; player++) {
                if (isIn(open, player)) {
                    ways[(set | 1 << player) * MOST_PLAYERS + player] += many;
                }
            }
        }
    }

    /** What is TO COME, and who MAY COME FIRST. */
    private static final class ToCome {
        private final int[] games = new int[PAIRS];
        // By sets: how much more its own must have than they may.
        private final int[] excess = new int[SETS];
        private int count = 0;

        int count() {
            return count;
        }

        void change(int a, int b, int by) {
            games[a * MOST_PLAYERS + b] += by;
            games[b * MOST_PLAYERS + a] += by;
            count += by;
        }

        /**
         * The set that hinders a PLAYER whose bits are least, or 0. If no set does, what is TO COME can be
         * shared out (Hall's theorem, a MEETING's two points being two to be placed), so the PLAYER may.
         */
        int leastHindrance(Meetings met, int n, int player) {
            int limit = pointsOf(met, n, player) + 2 * gamesWith(player, everyone(n), n);
            excess[0] = 0;
            for (int set = 1; set <= everyone(n); set++) {
                if (!isIn(set, player)) {
                    int low = Integer.numberOfTrailingZeros(set);
                    int rest = set & (set - 1);
                    excess[set] = excess[rest] + pointsOf(met, n, low) - limit + 2 * gamesWith(low, rest, n);
                    if (excess[set] > 0) {
                        return set;
                    }
                }
            }
            return 0;
        }

        /** What a PLAYER HAS. */
        private int pointsOf(Meetings met, int n, int player) {
            int sum = 0;
            for (int other = 0; other < n; other++) {
                sum += 2 * met.wins(player, other) + met.draws(player, other);
            }
            return sum;
        }

        private int gamesWith(int player, int set, int n) {
            int sum = 0;
            for (int other = 0; other < n; other++) {
                if (isIn(set, other)) {
                    sum += games[player * MOST_PLAYERS + other];
                }
            }
            return sum;
        }
    }
}
