import java.io.IOException;
import java.nio.file.Path;

/** The promises 11 to 29 and 31, of what can be asked, sentence by sentence, at their edges. */
public final class EdgesOfAnswersTest {
    private static final int NONE = MeetingRanks.NONE;
    private static final int LOW = Benches.LOW;
    private static final int HIGH = Benches.HIGH;

    private final Edges e;

    private EdgesOfAnswersTest(Edges e) {
        this.e = e;
    }

    /** What is no number below n, with those that are one beyond n or would be one with their bits cut off. */
    private static int[] noneBelow(int n) {
        return new int[] {-1, -2, n, n + 1, 10, 11, 32, 256, -256, 1 << 16, LOW, LOW + 1, HIGH, HIGH - 1};
    }

    // ---- 11, 12: MEETINGS

    private void partsOfAMeeting() {
        MeetingRanks x = Benches.withPlayers(10);
        x.meet(9, 8, 0, 99);
        x.meet(0, 9, 99, 0);
        e.dueEach("the first", what -> x.meeting(0, what), 9, 8, 0, 99);
        e.dueEach("the last", what -> x.meeting(1, what), 0, 9, 99, 0);
        MeetingRanks full = Benches.fullOfMeetings(2);
        e.dueEach("the first of 120", what -> full.meeting(0, what), 0, 1, 1, 0);
        e.dueEach("the last of 120", what -> full.meeting(119, what), 0, 1, 5, 6);
    }

    private void noSuchMeeting() {
        for (int what = -1; what <= 4; what++) {
            for (int k : new int[] {-1, 4, 5, 120, LOW, HIGH, 1 << 30}) {
                e.due("meeting(" + k + ", " + what + ") of 4", Benches.busy().meeting(k, what), NONE);
            }
            e.due("of none", new MeetingRanks().meeting(0, what), NONE);
            e.due("of 120", Benches.fullOfMeetings(2).meeting(120, what), NONE);
        }
        MeetingRanks x = Benches.busy();
        for (int what : new int[] {-1, 4, 5, -4, LOW, HIGH}) {
            for (int k = 0; k < 4; k++) {
                e.due("what " + what + " of " + k, x.meeting(k, what), NONE);
            }
        }
        x.drop(0);
        e.due("what is dropped", x.meeting(3, 0), NONE);
        x.undo(1);
        e.due("what is there again", x.meeting(3, 0), 0);
    }

    private void overFrom0() {
        MeetingRanks x = Benches.withPlayers(10);
        e.due("never met", x.over(9, 0), 0);
        for (int i = 1; i <= 120; i++) {
            x.meet(0, 9, 0, 1);
            e.due("won", x.over(9, 0), i);
        }
        e.due("lost", x.over(0, 9), 0);
    }

    private void overOfNone() {
        MeetingRanks x = Benches.busy();
        for (int none : noneBelow(4)) {
            e.due("over(" + none + ", 0)", x.over(none, 0), NONE);
            e.due("over(0, " + none + ")", x.over(0, none), NONE);
            e.due("over(" + none + ", " + none + ")", x.over(none, none), NONE);
        }
    }

    private void overOfOneAndTheSame() {
        for (int player = 0; player < 4; player++) {
            e.due("over of " + player + " and " + player, Benches.busy().over(player, player), NONE);
        }
        e.due("of one alone", new MeetingRanks().over(0, 0), NONE);
    }

    // ---- 13 to 16: THE TABLE

    private void scoreOfEach() {
        MeetingRanks x = Benches.withWins(10, 9, 0, 9, 0);
        x.meet(0, 8, 3, 3);
        e.dueEach("score", x::score, 1, 0, 0, 0, 0, 0, 0, 0, 1, 4);
        x.rule(10, -10, -10);
        e.dueEach("score", x::score, -30, 0, 0, 0, 0, 0, 0, 0, -10, 20);
    }

    private void scoreOfNone() {
        MeetingRanks x = Benches.withWins(4, 0, 1, 1, 2, 2, 3, 3, 0);
        for (int none : noneBelow(4)) {
            e.due("score(" + none + ")", x.score(none), 0);
        }
        e.due("of one that is", x.score(3), 2);
    }

    private void numberOfEachKind() {
        MeetingRanks x = Benches.withPlayers(4);
        x.meet(0, 1, 3, 1);
        x.meet(1, 0, 4, 2);
        x.meet(0, 2, 1, 1);
        x.meet(2, 3, 0, 5);
        x.meet(0, 1, 6, 0);
        // SCORES 5, 2, 1, 2.
        e.dueEach("won", p -> x.number(0, p), 2, 1, 0, 1);
        e.dueEach("lead", p -> x.number(1, p), 6, -6, -5, 5);
        e.dueEach("points", p -> x.number(2, p), 12, 5, 1, 5);
        e.dueEach("foes", p -> x.number(3, p), 7, 15, 7, 1);
        e.dueEach("beaten", p -> x.number(4, p), 9, 10, 5, 2);
        e.dueEach("among those as good", p -> x.number(5, p), 0, 0, 0, 0);
        MeetingRanks full = Benches.withPlayers(2);
        for (int i = 0; i < 120; i++) {
            full.meet(i % 2, 1 - i % 2, 99, 98);
        }
        full.rule(10, 0, 10);
        // SCORES 1200 each.
        e.due("the foe's 120 times", full.number(3, 0), 120 * 1200);
        e.due("twice the foe's 60 times", full.number(4, 1), 60 * 2 * 1200);
        full.rule(-10, 0, -10);
        e.due("the least", full.number(3, 1), -120 * 1200);
        e.due("among both", full.number(5, 0), -1200);
    }

    private void kind5ByScoreAlone() {
        MeetingRanks x = Benches.withPlayers(3);
        x.meet(1, 0, 1, 0);
        x.meet(0, 2, 3, 2);
        x.meet(2, 1, 4, 2);
        e.dueEach("without TIES", p -> x.number(5, p), 2, 2, 2);
        x.tie(2);
        e.dueEach("with a TIE that tells", p -> x.number(5, p), 2, 2, 2);
        x.tie(5);
        e.dueEach("with itself among the TIES", p -> x.number(5, p), 2, 2, 2);
        e.due("while THE TABLE takes those ahead", x.table(1), 1);
        x.meet(0, 1, 5, 5);
        // SCORES 3, 3, 2.
        e.dueEach("0 and 1 alone are as good", p -> x.number(5, p), 1, 3, 0);
    }

    private void numberOfNone() {
        MeetingRanks x = Benches.busy();
        for (int kind : new int[] {-1, 6, 7, LOW, HIGH}) {
            for (int player = 0; player < 4; player++) {
                e.due("number(" + kind + ", " + player + ")", x.number(kind, player), 0);
            }
        }
        for (int kind = 0; kind < 6; kind++) {
            for (int none : noneBelow(4)) {
                e.due("number(" + kind + ", " + none + ")", x.number(kind, none), 0);
            }
        }
        e.due("neither", x.number(LOW, HIGH), 0);
    }

    private void eachPlace() {
        for (int n = 1; n <= 10; n++) {
            MeetingRanks x = Benches.withPlayers(n);
            for (int i = 1; i < n; i++) {
                for (int k = 0; k < i; k++) {
                    x.meet(i, k, 1, 0);
                }
            }
            for (int k = 0; k < n; k++) {
                e.due("table(" + k + ") of " + n, x.table(k), n - 1 - k);
            }
            e.due("the first of " + n, x.table(0), n - 1);
            e.due("the last of " + n, x.table(n - 1), 0);
        }
    }

    private void noSuchPlace() {
        for (int k : noneBelow(4)) {
            e.due("table(" + k + ")", Benches.busy().table(k), NONE);
        }
        for (int k : noneBelow(10)) {
            e.due("table(" + k + ") of 10", Benches.inLine(10).table(k), NONE);
        }
        e.due("table(1) of one", new MeetingRanks().table(1), NONE);
    }

    private void tiedWithTheOneBehind() {
        MeetingRanks x = Benches.withPlayers(10);
        for (int k = 0; k < 9; k++) {
            e.due("tied(" + k + ") of ten alike", x.tied(k), true);
        }
        e.due("none is behind the last", x.tied(9), false);
        for (int k : noneBelow(10)) {
            e.due("tied(" + k + ")", x.tied(k), false);
        }
        e.due("none is behind one alone", new MeetingRanks().tied(0), false);
        MeetingRanks line = Benches.inLine(10);
        for (int k = 0; k < 10; k++) {
            e.due("tied(" + k + ") in line", line.tied(k), false);
        }
        // THE TABLE is 2, 0, 1, 3: it is places that are asked for.
        MeetingRanks y = Benches.withWins(4, 2, 3);
        y.meet(0, 1, 4, 4);
        e.dueTable("one ahead, two alike, one behind", y, 2, 0, 1, 3);
        e.dueEach("places", k -> y.tied(k) ? 1 : 0, 0, 1, 0, 0);
        y.undo(1);
        e.dueEach("the last three alike", k -> y.tied(k) ? 1 : 0, 0, 1, 1, 0);
    }

    // ---- 17 to 19: HEAPS, GAPS

    private void howManyHeaps() {
        for (int n = 1; n <= 10; n++) {
            e.due(n + " who never met", Benches.withPlayers(n).heaps(), n);
            e.due(n + " in line", Benches.inLine(n).heaps(), n);
            MeetingRanks x = Benches.inLine(n);
            x.meet(n - 1, 0, 1, 0);
            e.due(n + " in a ring", x.heaps(), 1);
        }
        MeetingRanks x = Benches.withPlayers(10);
        for (int i = 0; i < 9; i++) {
            x.meet(i + 1, i, 2, 2);
            e.due("one less with each draw", x.heaps(), 9 - i);
        }
    }

    private void heapOfEach() {
        MeetingRanks x = Benches.withWins(10, 9, 0, 0, 9, 5, 9, 5, 3);
        // 0 and 9 are one HEAP, led by that of 5, which leads 3 as well.
        e.dueEach("heap", x::heap, 4, 0, 1, 5, 2, 3, 6, 7, 8, 4);
    }

    private void heapOfNone() {
        for (int none : noneBelow(4)) {
            e.due("heap(" + none + ")", Benches.busy().heap(none), NONE);
        }
        for (int none : noneBelow(10)) {
            e.due("heap(" + none + ") of 10", Benches.inLine(10).heap(none), NONE);
        }
        e.due("heap(1) of one", new MeetingRanks().heap(1), NONE);
    }

    private void numeratorAndDenominator() {
        MeetingRanks x = Benches.withPlayers(3);
        x.meet(0, 1, 3, 1);
        x.meet(1, 2, 2, 2);
        x.meet(2, 0, 5, 0);
        e.dueGap(x, 0, -1, 1);
        e.dueGap(x, 1, -2, 3);
        e.dueGap(x, 2, 5, 3);
        e.dueGap(new MeetingRanks(), 0, 0, 1);
        MeetingRanks large = Benches.withPlayers(6);
        for (int i = 0; i < 120; i++) {
            int a = i % 6;
            int b = (a + 1 + (i * i + i / 5) % 5) % 6;
            int won = 99 - i % 3;
            large.meet(a, b, a < b ? won : i % 2, a < b ? i % 2 : won);
        }
        // As Model has it, by determinants of whole numbers without an end.
        e.dueGap(large, 0, 20222353009L, 248947134L);
        e.dueGap(large, 1, 12023182201L, 248947134L);
        e.dueGap(large, 2, 4768523491L, 248947134L);
        e.dueGap(large, 3, -3340338257L, 248947134L);
        e.dueGap(large, 4, -12371624333L, 248947134L);
        e.dueGap(large, 5, -21302096111L, 248947134L);
    }

    private void gapThatCannotBeAsked() {
        MeetingRanks x = Benches.busy();
        x.sheet(20);
        e.due("all are JOINED", x.about(6), 1);
        for (int none : noneBelow(4)) {
            e.due("gap(" + none + ", 0)", x.gap(none, 0), 0);
            e.due("gap(" + none + ", 1)", x.gap(none, 1), 0);
        }
        for (int part : new int[] {-1, 2, 3, LOW, HIGH}) {
            e.due("gap(1, " + part + ")", x.gap(1, part), 0);
        }
        x.player();
        for (int player = 0; player < 5; player++) {
            e.due("not JOINED: above", x.gap(player, 0), 0);
            e.due("not JOINED: below", x.gap(player, 1), 0);
        }
        MeetingRanks seven = Benches.inLine(7);
        for (int player = 0; player < 7; player++) {
            e.due("seven: above", seven.gap(player, 0), 0);
            e.due("seven: below", seven.gap(player, 1), 0);
        }
        MeetingRanks six = Benches.inLine(6);
        e.due("six", six.gap(5, 1), 6);
        e.due("and no seventh", six.gap(6, 1), 0);
    }

    // ---- 20 to 23: ROWS

    private void rowsAsDigits() {
        MeetingRanks x = Benches.withWins(3, 0, 1, 1, 2, 2, 0, 2, 0);
        e.due("0 1 2", x.cost(12), 2);
        e.due("0 2 1", x.cost(21), 3);
        e.due("1 0 2", x.cost(102), 3);
        e.due("1 2 0", x.cost(120), 1);
        e.due("2 0 1", x.cost(201), 1);
        e.due("2 1 0", x.cost(210), 2);
        e.due("one alone", new MeetingRanks().cost(0), 0);
        e.due("0 1", Benches.withWins(2, 1, 0).cost(1), 1);
        e.due("1 0", Benches.withWins(2, 1, 0).cost(10), 0);
        MeetingRanks line = Benches.inLine(10);
        e.due("the least of ten", line.cost(123456789L), 0);
        e.due("the greatest of ten", line.cost(9876543210L), 45);
        e.due("1 ahead of 0", line.cost(1023456789L), 1);
    }

    private void noRow() {
        MeetingRanks x = Benches.withWins(3, 0, 1, 1, 2);
        long[] wrong = {-1, -12, -210, 0, 1, 2, 10, 11, 13, 22, 100, 112, 121, 123, 211, 222, 310, 1012, 1120, 2210,
            3012, 10012, 1000000000012L, 12L + (1L << 32), 120L + (1L << 32), 12L - (1L << 32), 12L + (1L << 63),
            Long.MIN_VALUE, Long.MIN_VALUE + 1, Long.MAX_VALUE, Long.MAX_VALUE - 1, Integer.MAX_VALUE};
        for (long row : wrong) {
            e.due("cost(" + row + ") of 3", x.cost(row), NONE);
        }
        MeetingRanks one = new MeetingRanks();
        for (long row : new long[] {-1, 1, 9, 10, 100, 1L << 32, Long.MIN_VALUE, Long.MAX_VALUE}) {
            e.due("cost(" + row + ") of 1", one.cost(row), NONE);
        }
        MeetingRanks ten = Benches.inLine(10);
        for (long row : new long[] {0, 12345678, 123456788, 1123456789, 9876543211L, 10123456789L, 19876543210L,
            -9876543210L, -123456789L, 123456789L + (1L << 32), Long.MIN_VALUE, Long.MAX_VALUE}) {
            e.due("cost(" + row + ") of 10", ten.cost(row), NONE);
        }
    }

    private void bestOfAll() {
        for (int n = 1; n <= 10; n++) {
            e.due(n + " who never met", Benches.withPlayers(n).best(), 0);
            e.due(n + " in line", Benches.inLine(n).best(), 0);
        }
        MeetingRanks x = Benches.fullOfMeetings(10);
        // Of each five 0 won one, 1 won three, and they drew once.
        e.due("of 120", x.best(), 24);
        MeetingRanks rings = Benches.withPlayers(9);
        for (int i = 0; i < 120; i++) {
            int ring = i / 3 % 3 * 3;
            rings.meet(ring + i % 3, ring + (i + 1) % 3, 1, 0);
        }
        e.due("forty rings", rings.best(), 40);
    }

    /** What was found before must not be told again once the bench is another. */
    private void bestAfterEachAct() {
        MeetingRanks x = Benches.withWins(3, 0, 1, 1, 2);
        e.due("best", x.best(), 0);
        e.due("rows", x.rows(), 1);
        x.meet(2, 0, 1, 0);
        e.due("after meet", x.best(), 1);
        e.due("after meet", x.rows(), 3);
        x.drop(0);
        e.due("after drop", x.best(), 0);
        e.due("after drop", x.first(), 120);
        x.undo(1);
        e.due("after undo of drop", x.best(), 1);
        e.due("after undo of drop", x.first(), 12);
        x.player();
        e.due("after player", x.rows(), 12);
        e.due("after player", x.first(), 123);
        x.undo(1);
        e.due("after undo of player", x.rows(), 3);
        x.feed(Benches.four(1, 0, 1, 0), Benches.four(1, 0, 1, 0), Benches.four(2, 1, 1, 0), 0, 0);
        x.sheet(20);
        e.due("after sheet", x.best(), 2);
        e.due("after sheet", x.first(), 120);
        e.due("after sheet", x.rows(), 2);
        x.undo(1);
        e.due("after undo of sheet", x.best(), 1);
        x.undo(1);
        e.due("after undo of meet", x.best(), 0);
        x.meet(0, 2, 0, 1);
        x.undo(1);
        x.meet(1, 0, 1, 0);
        e.due("after undo and another meet", x.best(), 1);
        e.due("after undo and another meet", x.first(), 12);
    }

    private void howManyRows() {
        int all = 1;
        for (int n = 1; n <= 10; n++) {
            all *= n;
            e.due("all ROWS of " + n, Benches.withPlayers(n).rows(), all);
            e.due(n + " in line", Benches.inLine(n).rows(), 1);
        }
        e.due("half of them", Benches.withWins(10, 9, 0).rows(), 1814400);
        e.due("as often both ways: all", Benches.withWins(10, 9, 0, 0, 9).rows(), 3628800);
        e.due("a ring", Benches.withWins(3, 0, 1, 1, 2, 2, 0).rows(), 3);
    }

    private void firstAsDigits() {
        e.due("one alone", new MeetingRanks().first(), 0);
        e.due("0 1", Benches.withPlayers(2).first(), 1);
        e.due("1 0", Benches.withWins(2, 1, 0).first(), 10);
        MeetingRanks turned = Benches.withPlayers(10);
        for (int i = 0; i < 9; i++) {
            turned.meet(i + 1, i, 1, 0);
        }
        e.due("the greatest", turned.first(), 9876543210L);
        e.due("the least", Benches.withPlayers(10).first(), 123456789L);
        e.due("9 ahead of 0", Benches.withWins(10, 9, 0).first(), 1234567890L);
        e.due("its COST is BEST", turned.cost(turned.first()), turned.best());
        MeetingRanks ring = Benches.withWins(3, 0, 1, 1, 2, 2, 0, 2, 0);
        e.due("asked before BEST", ring.first(), 120);
        ring.meet(0, 1, 1, 0);
        ring.meet(0, 1, 1, 0);
        e.due("asked once more", ring.first(), 201);
    }

    // ---- 24 to 27: RINGS, the CORE, WALKS

    private void boundAtItsEdges() {
        e.due("one alone", new MeetingRanks().bound(), 0);
        e.due("two", Benches.fullOfMeetings(2).bound(), 0);
        MeetingRanks x = Benches.withPlayers(10);
        for (int i = 0; i < 120; i++) {
            x.meet(7 + i % 3, 7 + (i + 1) % 3, 1, 0);
        }
        e.due("forty", x.bound(), 40);
        e.due("asked again", x.bound(), 40);
        x.drop(0);
        e.due("with one less", x.bound(), 39);
        x.undo(1);
        e.due("with it again", x.bound(), 40);
    }

    private void coreAsBits() {
        for (int player = 0; player < 10; player++) {
            MeetingRanks x = Benches.withPlayers(10);
            for (int other = 0; other < 10; other++) {
                x.meet(player, other, 1, 0);
            }
            e.due(player + " alone", x.core(), 1 << player);
        }
        for (int n = 1; n <= 10; n++) {
            e.due("all of " + n, Benches.withPlayers(n).core(), (1 << n) - 1);
        }
        MeetingRanks two = Benches.withPlayers(10);
        for (int other = 0; other < 10; other++) {
            if (other != 3 && other != 8) {
                two.meet(3, other, 1, 0);
                two.meet(8, other, 1, 0);
            }
        }
        e.due("3 and 8", two.core(), 1 << 3 | 1 << 8);
    }

    private void championOrNone() {
        e.due("two who never met", Benches.withPlayers(2).champion(), NONE);
        e.due("as often", Benches.withWins(2, 0, 1, 1, 0).champion(), NONE);
        e.due("a ring", Benches.withWins(3, 0, 1, 1, 2, 2, 0).champion(), NONE);
        e.due("one is left", Benches.withWins(3, 1, 0).champion(), NONE);
        for (int player = 0; player < 10; player++) {
            MeetingRanks x = Benches.withPlayers(10);
            for (int other = 0; other < 10; other++) {
                x.meet(player, other, 1, 0);
            }
            e.due("champion", x.champion(), player);
            x.meet(player, (player + 1) % 10, 0, 1);
            e.due("as often as one of them", x.champion(), NONE);
        }
    }

    private void oneAloneIsChampion() {
        e.due("one alone", new MeetingRanks().champion(), 0);
        MeetingRanks x = Benches.withPlayers(2);
        e.due("two", x.champion(), NONE);
        x.undo(1);
        e.due("one alone again", x.champion(), 0);
    }

    private static boolean[][] beating(MeetingRanks x, int n) {
        boolean[][] beats = new boolean[n][n];
        for (int a = 0; a < n; a++) {
            for (int b = 0; b < n; b++) {
                beats[a][b] = x.over(a, b) > x.over(b, a);
            }
        }
        return beats;
    }

    private static int walksOn(boolean[][] beats, int used, int last) {
        if (used == (1 << beats.length) - 1) {
            return 1;
        }
        int sum = 0;
        for (int p = 0; p < beats.length; p++) {
            boolean open = (used >> p & 1) == 0;
            if (open && (last < 0 || beats[last][p])) {
                sum += walksOn(beats, used | 1 << p, p);
            }
        }
        return sum;
    }

    private void howManyWalks() {
        e.due("one alone", new MeetingRanks().walks(), 1);
        for (int n = 2; n <= 10; n++) {
            e.due(n + " who never met", Benches.withPlayers(n).walks(), 0);
            e.due(n + " in line", Benches.inLine(n).walks(), 1);
        }
        // Each beats the next three or four round the circle.
        for (int n = 3; n <= 10; n++) {
            MeetingRanks x = Benches.withPlayers(n);
            for (int a = 0; a < n; a++) {
                for (int step = 1; 2 * step < n; step++) {
                    x.meet(a, (a + step) % n, 1, 0);
                }
            }
            int want = walksOn(beating(x, n), 0, NONE);
            e.due(n + " round a circle", x.walks(), want);
            e.due("asked again", x.walks(), want);
        }
        MeetingRanks x = Benches.withWins(3, 0, 1, 1, 2, 2, 0);
        e.due("a ring", x.walks(), 3);
        x.player();
        e.due("with one whom nobody met", x.walks(), 0);
        x.undo(1);
        e.due("the ring again", x.walks(), 3);
    }

    // ---- 28, 29, 31

    private void mayOrNot() {
        e.due("one alone", new MeetingRanks().may(0), 1);
        e.dueEach("nobody has anything", Benches.withPlayers(10)::may, 1, 1, 1, 1, 1, 1, 1, 1, 1, 1);
        MeetingRanks x = Benches.withWins(10, 9, 0);
        e.dueEach("9 has two", x::may, 0, 0, 0, 0, 0, 0, 0, 0, 0, 1);
        x.next(0, 8);
        e.dueEach("0 or 8 may have two", x::may, 1, 0, 0, 0, 0, 0, 0, 0, 1, 1);
        MeetingRanks full = Benches.fullOfComing();
        e.dueEach("forty TO COME: 2 may have all, the others have twenty each", full::may, 1, 1, 1);
    }

    private void mayOfNone() {
        for (int none : noneBelow(4)) {
            e.due("may(" + none + ")", Benches.busy().may(none), NONE);
        }
        for (int none : noneBelow(10)) {
            e.due("may(" + none + ") of 10", Benches.withPlayers(10).may(none), NONE);
        }
    }

    private void whyAsBits() {
        for (int player = 0; player < 10; player++) {
            MeetingRanks x = Benches.withWins(10, player, (player + 1) % 10);
            for (int other = 0; other < 10; other++) {
                e.due("why(" + other + ")", x.why(other), other == player ? 0 : 1 << player);
            }
        }
        MeetingRanks last = Benches.withPlayers(10);
        for (int i = 0; i < 40; i++) {
            last.next(8, 9);
        }
        e.due("8 and 9", last.why(0), 1 << 8 | 1 << 9);
    }

    private void whyIsZeroIfItMay() {
        e.due("one alone", new MeetingRanks().why(0), 0);
        for (int player = 0; player < 10; player++) {
            e.due("nobody has anything", Benches.withPlayers(10).why(player), 0);
        }
        MeetingRanks x = Benches.busy();
        for (int player = 0; player < 4; player++) {
            e.due("0 just if it may", x.why(player) == 0, x.may(player) == 1);
        }
    }

    private void whyOfNone() {
        for (int none : noneBelow(4)) {
            e.due("why(" + none + ")", Benches.busy().why(none), NONE);
        }
        for (int none : noneBelow(10)) {
            e.due("why(" + none + ") of 10", Benches.withPlayers(10).why(none), NONE);
        }
    }

    private void aboutEach() {
        e.dueAbout("new", new MeetingRanks(), 1, 0, 0, 0, 0, 0, 1);
        MeetingRanks busy = Benches.busy();
        e.dueAbout("busy", busy, 4, 4, 3, 2, 15, 20, 1);
        busy.undo(3);
        e.dueAbout("busy, with three undone", busy, 4, 3, 1, 2, 12, 20, 1);
        MeetingRanks x = Benches.fullOfMeetings(10);
        e.dueAbout("full of MEETINGS", x, 10, 120, 0, 0, 10, 0, 0);
        e.dueAbout("full of TO COME", Benches.fullOfComing(), 3, 0, 40, 0, 40, 0, 0);
        e.dueAbout("full of TIES", Benches.fullOfTies(), 3, 3, 0, 4, 9, 0, 1);
        e.dueAbout("full of bytes", Benches.fullOfBytes(), 2, 0, 0, 0, 1, 480, 0);
    }

    private void aboutAllJoined() {
        MeetingRanks x = new MeetingRanks();
        e.due("one alone", x.about(6), 1);
        for (int i = 1; i < 10; i++) {
            x.player();
            e.due("a new one has met nobody", x.about(6), 0);
            x.meet(i, i / 2, i % 2, 1);
            e.due("now it has", x.about(6), 1);
        }
        x.drop(8);
        e.due("without the last", x.about(6), 0);
        x.undo(1);
        e.due("with it", x.about(6), 1);
        MeetingRanks halves = Benches.withWins(10, 0, 1, 1, 2, 2, 3, 3, 4, 5, 6, 6, 7, 7, 8, 8, 9);
        e.due("two halves", halves.about(6), 0);
        halves.meet(9, 0, 0, 0);
        e.due("one whole", halves.about(6), 1);
    }

    private void aboutAnother() {
        for (int what : new int[] {-1, -2, 7, 8, 100, 256, LOW, LOW + 6, HIGH}) {
            e.due("about(" + what + ")", Benches.busy().about(what), NONE);
        }
    }

    private void ofTheTable() {
        e.holds("Promise 11", "Of MEETING k what 0: a, 1: b, 2: p, 3: q.", this::partsOfAMeeting);
        e.holds("Promise 11", "NONE if there is none such.", this::noSuchMeeting);
        e.holds("Promise 12", "OVER;", this::overFrom0);
        e.holds("Promise 12", "NONE if one is none,", this::overOfNone);
        e.holds("Promise 12", "or both are one.", this::overOfOneAndTheSame);
        e.holds("Promise 13", "SCORE;", this::scoreOfEach);
        e.holds("Promise 13", "0 if there is none such.", this::scoreOfNone);
        e.holds("Promise 14", "What a KIND of TIES gives a PLAYER", this::numberOfEachKind);
        e.holds("Promise 14", "(5: by SCORE alone, as if it were the first of the TIES);", this::kind5ByScoreAlone);
        e.holds("Promise 14", "0 if there is none such.", this::numberOfNone);
        e.holds("Promise 15", "The k-th of THE TABLE;", this::eachPlace);
        e.holds("Promise 15", "NONE.", this::noSuchPlace);
        e.holds("Promise 16", "Whether the k-th of THE TABLE and the one behind it are TIED.",
                this::tiedWithTheOneBehind);
    }

    private void ofHeapsAndRows() {
        e.holds("Promise 17", "How many HEAPS.", this::howManyHeaps);
        e.holds("Promise 18", "The HEAP of a PLAYER;", this::heapOfEach);
        e.holds("Promise 18", "NONE.", this::heapOfNone);
        e.holds("Promise 19", "GAPS: of a PLAYER the numerator (part 0), the denominator (1);",
                this::numeratorAndDenominator);
        e.holds("Promise 19", "0 if it can't be asked.", this::gapThatCannotBeAsked);
        e.holds("Promise 20", "COST of a ROW: its PLAYERS as digits of ten, the first one the highest of n digits "
                + "(so 0 1 2 is 12);", this::rowsAsDigits);
        e.holds("Promise 20", "NONE if it is none.", this::noRow);
        e.holds("Promise 21", "BEST.", this::bestOfAll);
        e.holds("Promise 21", "BEST.", this::bestAfterEachAct);
        e.holds("Promise 22", "How many ROWS have BEST.", this::howManyRows);
        e.holds("Promise 23", "FIRST, as digits.", this::firstAsDigits);
    }

    private void ofTheRest() {
        e.holds("Promise 24", "BOUND.", this::boundAtItsEdges);
        e.holds("Promise 25", "CORE, as bits.", this::coreAsBits);
        e.holds("Promise 26", "CHAMPION; NONE without.", this::championOrNone);
        e.holds("Promise 26", "(One PLAYER alone is it.)", this::oneAloneIsChampion);
        e.holds("Promise 27", "How many WALKS there are.", this::howManyWalks);
        e.holds("Promise 28", "1 if a PLAYER MAY COME FIRST, 0 if not;", this::mayOrNot);
        e.holds("Promise 28", "NONE if there is none such.", this::mayOfNone);
        e.holds("Promise 29", "WHY, as bits;", this::whyAsBits);
        e.holds("Promise 29", "0 if it may,", this::whyIsZeroIfItMay);
        e.holds("Promise 29", "NONE if there is none such.", this::whyOfNone);
        e.holds("Promise 31", "What 0: PLAYERS, 1: MEETINGS, 2: TO COME, 3: TIES, 4: acts that can be UNDONE, "
                + "5: bytes on the TAPE,", this::aboutEach);
        e.holds("Promise 31", "6: 1 if all are JOINED.", this::aboutAllJoined);
        e.holds("Promise 31", "NONE for another what.", this::aboutAnother);
    }

    public static void main(String[] args) throws IOException {
        Edges e = new Edges(Path.of(args.length > 1 ? args[1] : "../shared/DOC.md"));
        EdgesOfAnswersTest t = new EdgesOfAnswersTest(e);
        t.ofTheTable();
        t.ofHeapsAndRows();
        t.ofTheRest();
        String[] whole = new String[20];
        for (int i = 0; i < 20; i++) {
            whole[i] = "Promise " + (i == 19 ? 31 : 11 + i);
        }
        e.end(whole);
    }
}
