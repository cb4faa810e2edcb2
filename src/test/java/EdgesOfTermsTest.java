import java.io.IOException;
import java.math.BigInteger;
import java.nio.file.Path;

/** What 'Terms' says, sentence by sentence, at its edges. */
public final class EdgesOfTermsTest {
    private static final int NONE = MeetingRanks.NONE;
    private static final int[] SCRAMBLED = {5, 2, 8, 0, 9, 1, 7, 3, 6, 4};

    private final Edges e;

    private EdgesOfTermsTest(Edges e) {
        this.e = e;
    }

    // ---- PLAYERS, MEETINGS

    private void oneToTenPlayers() {
        MeetingRanks x = new MeetingRanks();
        e.due("PLAYER 0 is there at once", x.may(0), 1);
        e.due("PLAYER 1 is not", x.may(1), NONE);
        e.due("PLAYER 0 can't be undone", x.undo(1), NONE);
        e.due("one is left", x.about(0), 1);
        for (int n = 2; n <= 10; n++) {
            x.player();
            e.due("PLAYER n - 1 of " + n, x.may(n - 1), 1);
            e.due("PLAYER n of " + n, x.may(n), NONE);
        }
        e.due("there is no 11th", x.player(), NONE);
        e.due("there are 10", x.about(0), 10);
        e.due("the last one can meet", x.meet(9, 0, 1, 0), 1);
        x.undo(10);
        e.due("all but the first are undone", x.about(0), 1);
    }

    private void atMost120InOrder() {
        MeetingRanks x = Benches.withPlayers(4);
        for (int i = 0; i < 120; i++) {
            e.due("meet", x.meet(i % 3, 3, i % 100, i / 100), i + 1);
        }
        e.due("the 121st", x.meet(0, 1, 1, 0), NONE);
        e.due("meetings", x.about(1), 120);
        for (int k = 0; k < 120; k += 17) {
            e.due("a of MEETING " + k, x.meeting(k, 0), k % 3);
            e.due("p of MEETING " + k, x.meeting(k, 2), k % 100);
            e.due("q of MEETING " + k, x.meeting(k, 3), k / 100);
        }
        e.due("a of the last", x.meeting(119, 0), 119 % 3);
        e.due("p of the last", x.meeting(119, 2), 19);
    }

    private void twoDifferentPlayers() {
        MeetingRanks x = Benches.withPlayers(3);
        for (int a = 0; a < 3; a++) {
            e.due("with itself", x.meet(a, a, 1, 0), NONE);
            e.due("a draw with itself", x.meet(a, a, 1, 1), NONE);
            e.due("to come with itself", x.next(a, a), NONE);
        }
        e.due("no MEETINGS", x.about(1), 0);
        e.due("none TO COME", x.about(2), 0);
        e.due("with another", x.meet(2, 1, 1, 0), 1);
    }

    private void pointsFrom0To99() {
        MeetingRanks x = Benches.withPlayers(2);
        e.due("p 0, q 0", x.meet(0, 1, 0, 0), 1);
        e.due("p 99, q 99", x.meet(0, 1, 99, 99), 2);
        e.due("p 0, q 99", x.meet(0, 1, 0, 99), 3);
        e.due("p 99, q 0", x.meet(0, 1, 99, 0), 4);
        for (int wrong : new int[] {-1, 100, 256, Benches.LOW, Benches.HIGH}) {
            e.due("p " + wrong, x.meet(0, 1, wrong, 0), NONE);
            e.due("q " + wrong, x.meet(0, 1, 0, wrong), NONE);
            e.due("p and q " + wrong, x.meet(0, 1, wrong, wrong), NONE);
        }
        e.due("four came", x.about(1), 4);
        e.due("p of the last", x.meeting(3, 2), 99);
        e.due("q of the third", x.meeting(2, 3), 99);
    }

    private void wonLostDrew() {
        int[][] won = {{1, 0}, {99, 98}, {99, 0}, {50, 49}};
        for (int[] points : won) {
            MeetingRanks x = Benches.withPlayers(2);
            x.meet(0, 1, points[0], points[1]);
            e.due("above: a WON", x.over(0, 1), 1);
            e.due("above: b did not", x.over(1, 0), 0);
            e.due("above: b LOST, which gives 0", x.score(1), 0);
            MeetingRanks y = Benches.withPlayers(2);
            y.meet(0, 1, points[1], points[0]);
            e.due("below: a did not win", y.over(0, 1), 0);
            e.due("below: b WON", y.over(1, 0), 1);
            e.due("below: a LOST, which gives 0", y.score(0), 0);
        }
        for (int points : new int[] {0, 1, 50, 99}) {
            MeetingRanks x = Benches.withPlayers(2);
            x.meet(0, 1, points, points);
            e.due("as many: a did not win", x.over(0, 1), 0);
            e.due("as many: b did not win", x.over(1, 0), 0);
            e.due("as many: a DREW", x.score(0), 1);
            e.due("as many: b DREW", x.score(1), 1);
        }
    }

    private void overCountsEachTime() {
        MeetingRanks x = Benches.withPlayers(3);
        e.due("never met", x.over(0, 1), 0);
        for (int i = 0; i < 119; i++) {
            x.meet(i % 2, 1 - i % 2, i % 2 == 0 ? 7 : 2, i % 2 == 0 ? 2 : 7);
        }
        x.meet(1, 0, 3, 3);
        e.due("won 119 times, named first or second", x.over(0, 1), 119);
        e.due("never the other way", x.over(1, 0), 0);
        e.due("of another", x.over(0, 2), 0);
    }

    private void asOftenBeatsNone() {
        MeetingRanks x = Benches.withWins(2, 0, 1, 1, 0);
        e.due("as often: no CHAMPION", x.champion(), NONE);
        e.due("as often: no WALK", x.walks(), 0);
        e.due("as often: the CORE is both", x.core(), 3);
        x.meet(0, 1, 99, 0);
        e.due("once more: CHAMPION", x.champion(), 0);
        e.due("once more: WALK", x.walks(), 1);
        e.due("once more: CORE", x.core(), 1);
        x.meet(0, 1, 4, 4);
        e.due("a draw changes nothing", x.champion(), 0);
        x.meet(0, 1, 0, 1);
        e.due("as often again", x.champion(), NONE);
        e.due("0 and 0 is as often", Benches.withPlayers(2).champion(), NONE);
    }

    // ---- SCORE, TIES, THE TABLE

    private void scoresAtTheEdges() {
        MeetingRanks x = Benches.withPlayers(4);
        e.due("no MEETINGS", x.score(0), 0);
        x.meet(0, 1, 1, 0);
        x.meet(2, 0, 5, 5);
        e.due("2 and 1 at first", x.score(0), 3);
        e.due("0 at first", x.score(1), 0);
        e.due("1 at first", x.score(2), 1);
        e.due("rule", x.rule(10, -10, 10), true);
        e.due("a MEETING lost gives too", x.score(1), 10);
        e.due("10 and -10", x.score(0), 0);
        e.due("none met", x.score(3), 0);
        MeetingRanks full = Benches.withPlayers(2);
        for (int i = 0; i < 120; i++) {
            full.meet(0, 1, 1, 0);
        }
        full.rule(10, 0, -10);
        e.due("the greatest", full.score(0), 1200);
        e.due("the least", full.score(1), -1200);
        full.rule(-10, 0, 10);
        e.due("turned: the least", full.score(0), -1200);
        e.due("turned: the greatest", full.score(1), 1200);
    }

    private void upToFourTies() {
        MeetingRanks x = Benches.withPlayers(2);
        e.due("none at first", x.about(3), 0);
        x.meet(0, 1, 1, 1);
        e.due("none at first, so both are TIED", x.tied(0), true);
        for (int i = 1; i <= 4; i++) {
            e.due("the same KIND again", x.tie(2), i);
        }
        e.due("a fifth", x.tie(2), NONE);
        e.due("four", x.about(3), 4);
        for (int kind = 0; kind <= 5; kind++) {
            MeetingRanks y = Benches.withPlayers(2);
            e.due("KIND " + kind, y.tie(kind), 1);
        }
        e.due("no KIND below", Benches.withPlayers(2).tie(-1), NONE);
        e.due("no KIND above", Benches.withPlayers(2).tie(6), NONE);
    }

    private void eachPlayerHasANumber() {
        MeetingRanks x = Benches.withPlayers(10);
        for (int kind = 0; kind <= 5; kind++) {
            for (int player = 0; player < 10; player++) {
                e.due("KIND " + kind + " without MEETINGS", x.number(kind, player), 0);
            }
        }
    }

    private void kindWins() {
        MeetingRanks x = Benches.withPlayers(3);
        x.meet(0, 1, 1, 0);
        x.meet(1, 0, 0, 1);
        x.meet(0, 2, 4, 4);
        e.dueEach("wins", p -> x.number(0, p), 2, 0, 0);
        x.rule(-10, 10, 10);
        e.dueEach("wins, whatever the RULE", p -> x.number(0, p), 2, 0, 0);
    }

    private void kindLead() {
        MeetingRanks x = Benches.withPlayers(3);
        for (int i = 0; i < 120; i++) {
            x.meet(i % 2, 1 - i % 2, i % 2 == 0 ? 99 : 0, i % 2 == 0 ? 0 : 99);
        }
        e.dueEach("the greatest, the least, none", p -> x.number(1, p), 120 * 99, -120 * 99, 0);
    }

    private void kindPoints() {
        MeetingRanks x = Benches.withPlayers(3);
        for (int i = 0; i < 120; i++) {
            x.meet(0, 1, 99, 98);
        }
        e.dueEach("points", p -> x.number(2, p), 120 * 99, 120 * 98, 0);
    }

    private void kindFoes() {
        MeetingRanks x = Benches.withWins(4, 0, 1, 0, 1, 2, 1);
        x.rule(3, 0, -1);
        // SCORES 6, -3, 3, 0.
        e.dueEach("MEETING by MEETING, below 0 too, none met", p -> x.number(3, p), -6, 15, -3, 0);
    }

    private void kindBeaten() {
        MeetingRanks x = Benches.withWins(4, 0, 1, 0, 1, 2, 1);
        x.meet(0, 2, 3, 3);
        x.meet(2, 0, 3, 3);
        x.rule(3, 1, -1);
        // SCORES 8, -3, 5, 0.
        e.dueEach("beat, drew, lost", p -> x.number(4, p), 2 * 2 * -3 + 2 * 5, 0, 2 * -3 + 2 * 8, 0);
    }

    private void kindAmong() {
        MeetingRanks x = Benches.withWins(4, 0, 1, 0, 1);
        e.dueEach("with nobody as good whom it met", p -> x.number(5, p), 0, 0, 0, 0);
        // A ring, so SCORES are 2 each; points are 3, 3, 6.
        MeetingRanks ring = Benches.withPlayers(3);
        ring.meet(1, 0, 1, 0);
        ring.meet(0, 2, 3, 2);
        ring.meet(2, 1, 4, 2);
        e.dueEach("all three are as good", p -> ring.number(5, p), 2, 2, 2);
        ring.tie(2);
        e.dueTable("by points", ring, 2, 0, 1);
        e.due("0 and 1 are as good by both", ring.tied(1), true);
        ring.tie(5);
        e.dueTable("among those two alone 1 won", ring, 2, 1, 0);
        e.due("which tells", ring.tied(1), false);
        ring.ties();
        ring.tie(5);
        ring.tie(2);
        e.dueTable("ahead of the points all three count", ring, 2, 0, 1);
        e.due("ahead of the points all three count", ring.tied(1), true);
    }

    private void tableByScore() {
        MeetingRanks x = Benches.withPlayers(10);
        e.dueTable("all as good", x, 0, 1, 2, 3, 4, 5, 6, 7, 8, 9);
        for (int i = 0; i < 9; i++) {
            x.meet(SCRAMBLED[i], SCRAMBLED[i + 1], 1, 0);
            x.meet(SCRAMBLED[i], SCRAMBLED[i + 1], 1, 0);
        }
        x.meet(SCRAMBLED[0], SCRAMBLED[9], 1, 0);
        // All but the first and the last have 4, these 6 and 0.
        e.dueTable("the greatest first", x, 5, 0, 1, 2, 3, 6, 7, 8, 9, 4);
        x.rule(-1, 0, 0);
        e.dueTable("below 0: the greatest first", x, 4, 0, 1, 2, 3, 6, 7, 8, 9, 5);
        e.dueTable("one alone", new MeetingRanks(), 0);
    }

    private void tableByTies() {
        // SCORES, wins and leads are alike; points are 1, 5, 4.
        for (int teller = 0; teller < 4; teller++) {
            MeetingRanks x = Benches.withPlayers(3);
            x.meet(0, 1, 1, 1);
            x.meet(1, 2, 4, 4);
            x.meet(2, 0, 0, 0);
            x.meet(0, 2, 0, 0);
            x.meet(1, 0, 0, 0);
            x.meet(2, 1, 0, 0);
            for (int t = 0; t < teller; t++) {
                x.tie(t % 2);
            }
            e.dueTable(teller + " that tell nothing", x, 0, 1, 2);
            x.tie(2);
            e.dueTable("the one at " + teller + " tells", x, 1, 2, 0);
            e.due("1 and 2", x.tied(0), false);
            e.due("2 and 0", x.tied(1), false);
        }
        // The first of the TIES goes ahead of the second: leads 1, 0, -1, points 1, 18, 8.
        MeetingRanks y = Benches.withPlayers(3);
        y.meet(0, 1, 1, 0);
        y.meet(1, 2, 9, 8);
        y.meet(2, 0, 0, 0);
        y.meet(1, 0, 9, 9);
        y.rule(0, 0, 0);
        y.tie(1);
        e.dueTable("by leads", y, 0, 1, 2);
        y.tie(2);
        e.dueTable("by leads first", y, 0, 1, 2);
        y.ties();
        y.tie(2);
        e.dueTable("by points", y, 1, 0, 2);
        y.tie(1);
        e.dueTable("by points first", y, 1, 0, 2);
        // Of as many alone: 0 has the greater SCORE, 1 more points, whatever is asked in between.
        MeetingRanks z = Benches.withPlayers(3);
        z.meet(0, 2, 1, 0);
        z.meet(1, 2, 50, 99);
        z.tie(2);
        e.dueTable("the SCORE goes ahead of the TIES", z, 2, 0, 1);
        e.due("points of 1", z.number(2, 1), 50);
        e.dueTable("the SCORE goes ahead of the TIES", z, 2, 0, 1);
        z.meet(1, 2, 0, 0);
        // SCORES 2, 1, 3; points 1, 50, 99.
        e.dueTable("each has another SCORE", z, 2, 0, 1);
        e.due("not TIED", z.tied(1), false);
    }

    private void tableByNumbersAtLast() {
        MeetingRanks x = Benches.withPlayers(10);
        for (int kind = 1; kind < 5; kind++) {
            x.tie(kind);
        }
        e.dueTable("four TIES that tell nothing", x, 0, 1, 2, 3, 4, 5, 6, 7, 8, 9);
        x.meet(9, 0, 1, 0);
        e.dueTable("the rest by numbers", x, 9, 1, 2, 3, 4, 5, 6, 7, 8, 0);
    }

    private void tiedByNumbersAlone() {
        MeetingRanks x = Benches.withPlayers(4);
        x.meet(3, 2, 2, 2);
        x.meet(1, 0, 5, 5);
        e.dueTable("by numbers", x, 0, 1, 2, 3);
        e.dueEach("all alike by SCORE", k -> x.tied(k) ? 1 : 0, 1, 1, 1, 0);
        x.tie(2);
        e.dueEach("points tell 1 from 2", k -> x.tied(k) ? 1 : 0, 1, 0, 1, 0);
        x.meet(0, 3, 1, 0);
        e.dueTable("by SCORE, then by points", x, 0, 1, 2, 3);
        e.dueEach("SCORE, points", k -> x.tied(k) ? 1 : 0, 0, 0, 1, 0);
        x.tie(3);
        // The foes' SCORES: of 2 that of 3, 1; of 3 those of 2 and 0, 4.
        e.dueTable("the last of the TIES tells", x, 0, 1, 3, 2);
        e.dueEach("the last of the TIES tells", k -> x.tied(k) ? 1 : 0, 0, 0, 0, 0);
    }

    // ---- HEAPS, GAPS

    private void reachesOnAndOn() {
        MeetingRanks x = Benches.withPlayers(10);
        e.due("each REACHES itself", x.heaps(), 10);
        for (int i = 0; i < 9; i++) {
            x.meet(SCRAMBLED[i], SCRAMBLED[i + 1], 1, 0);
            e.due("one that LOST does not reach", x.heaps(), 10);
        }
        x.meet(SCRAMBLED[0], SCRAMBLED[9], 0, 1);
        e.due("nine steps and back", x.heaps(), 1);
        x.drop(4);
        e.due("with one step less", x.heaps(), 10);
        x.meet(SCRAMBLED[5], SCRAMBLED[4], 3, 3);
        e.due("a draw leads on as well", x.heaps(), 1);
        MeetingRanks both = Benches.withWins(2, 0, 1, 1, 0);
        e.due("in some MEETING, be it LOST in another", both.heaps(), 1);
        MeetingRanks draws = Benches.withPlayers(3);
        draws.meet(0, 2, 4, 4);
        e.due("a draw leads both ways", draws.heaps(), 2);
        e.due("a draw leads both ways", draws.heap(2), draws.heap(0));
    }

    private void heapIsAllThatReachOneAnother() {
        MeetingRanks x = Benches.withWins(5, 0, 2, 2, 4, 4, 0, 0, 1, 4, 3);
        e.dueEach("0, 2, 4 in one, 1 and 3 alone", x::heap, 0, 1, 0, 2, 0);
        x.meet(1, 3, 1, 0);
        e.dueEach("1 leads 3, but not back", x::heap, 0, 1, 0, 2, 0);
        x.meet(3, 1, 0, 0);
        e.dueEach("1 and 3 together", x::heap, 0, 1, 0, 1, 0);
        e.due("one alone is a HEAP", new MeetingRanks().heaps(), 1);
    }

    private void leadsThroughOthers() {
        // 3 over 2, 2 over 1: the HEAP of 3 LEADS that of 1 too; 0 is led by none.
        MeetingRanks x = Benches.withWins(4, 3, 2, 2, 1);
        e.dueEach("a chain", x::heap, 0, 3, 2, 1);
        // Of the HEAP of 1 and 3 just 3 REACHES 0.
        MeetingRanks y = Benches.withWins(4, 1, 3, 3, 1, 3, 0);
        e.dueEach("one of it REACHES one of that", y::heap, 1, 0, 2, 0);
    }

    private void heapsNumberedAgainAndAgain() {
        MeetingRanks none = Benches.withPlayers(10);
        e.dueEach("none is led", none::heap, 0, 1, 2, 3, 4, 5, 6, 7, 8, 9);
        e.dueEach("2 leads 0, which is next at once", Benches.withWins(5, 2, 0)::heap, 2, 0, 1, 3, 4);
        e.dueEach("4 leads 0, which is last", Benches.withWins(5, 4, 0)::heap, 4, 0, 1, 2, 3);
        e.dueEach("both 1 and 3 lead 0", Benches.withWins(5, 1, 0, 3, 0)::heap, 3, 0, 1, 2, 4);
        e.dueEach("the least of 0 and 4 is 0", Benches.withWins(5, 4, 0, 0, 4, 2, 1)::heap, 0, 2, 1, 3, 0);
        MeetingRanks turned = Benches.withPlayers(10);
        for (int i = 9; i > 0; i--) {
            turned.meet(i, i - 1, 1, 0);
        }
        e.dueEach("from the last on", turned::heap, 9, 8, 7, 6, 5, 4, 3, 2, 1, 0);
    }

    private void gapsOfSixAtMost() {
        for (int n = 1; n <= 10; n++) {
            MeetingRanks x = Benches.withPlayers(n);
            for (int i = 1; i < n; i++) {
                x.meet(0, i, 1, 0);
            }
            e.due(n + " are JOINED", x.about(6), 1);
            e.due("the gap of 0 of " + n + ", below", x.gap(0, 1) > 0, n <= 6);
            e.due("the gap of the last of " + n + ", below", x.gap(n - 1, 1) > 0, n <= 6);
            e.due("the gap of 0 of " + n + ", above", x.gap(0, 0) > 0, n > 1 && n <= 6);
        }
    }

    private void joinedByMeetings() {
        MeetingRanks x = Benches.withPlayers(3);
        e.due("none met", x.about(6), 0);
        x.meet(0, 1, 0, 5);
        x.next(1, 2);
        e.due("what is TO COME joins none", x.about(6), 0);
        e.due("what is TO COME joins none", x.gap(0, 1), 0);
        x.meet(2, 1, 3, 3);
        e.due("0 with 2 by 1, LOST and DRAWN", x.about(6), 1);
        x.drop(0);
        e.due("and no more", x.about(6), 0);
        MeetingRanks pairs = Benches.withWins(4, 0, 1, 2, 3, 2, 3);
        e.due("two by two", pairs.about(6), 0);
        e.due("two by two", pairs.gap(0, 1), 0);
        MeetingRanks chain = Benches.withPlayers(10);
        for (int i = 0; i < 9; i++) {
            e.due("one is not yet led to", chain.about(6), 0);
            chain.meet(SCRAMBLED[i + 1], SCRAMBLED[i], 0, 1);
        }
        e.due("ten in a chain", chain.about(6), 1);
        e.due("one alone", new MeetingRanks().about(6), 1);
    }

    /** 120 MEETINGS of six with the greatest numbers: x must have the sum 0 and meet each PLAYER's equation. */
    private void gapsAreLeastSquares() {
        MeetingRanks x = Benches.withPlayers(6);
        int[] points = {99, 0, 98, 1, 97, 2, 95};
        int[][] met = new int[120][];
        for (int i = 0; i < 120; i++) {
            int a = i % 6;
            int b = (a + 1 + i / 6 % 5) % 6;
            met[i] = new int[] {a, b, points[i % 7], 99 - points[i * 3 % 7]};
            x.meet(a, b, met[i][2], met[i][3]);
        }
        BigInteger below = BigInteger.ONE;
        for (int i = 0; i < 6; i++) {
            below = below.multiply(BigInteger.valueOf(x.gap(i, 1)));
        }
        BigInteger sum = BigInteger.ZERO;
        BigInteger[] rest = new BigInteger[6];
        BigInteger[] gap = new BigInteger[6];
        for (int i = 0; i < 6; i++) {
            rest[i] = BigInteger.ZERO;
            gap[i] = below.divide(BigInteger.valueOf(x.gap(i, 1))).multiply(BigInteger.valueOf(x.gap(i, 0)));
            sum = sum.add(gap[i]);
        }
        for (int[] m : met) {
            BigInteger lead = below.multiply(BigInteger.valueOf(m[2] - m[3]));
            BigInteger off = gap[m[0]].subtract(gap[m[1]]).subtract(lead);
            rest[m[0]] = rest[m[0]].add(off);
            rest[m[1]] = rest[m[1]].subtract(off);
        }
        e.due("the sum", sum.signum(), 0);
        for (int i = 0; i < 6; i++) {
            e.due("the squares are least for " + i, rest[i].signum(), 0);
        }
    }

    private void gapsInLowestTerms() {
        e.dueGap(new MeetingRanks(), 0, 0, 1);
        MeetingRanks even = Benches.withPlayers(2);
        even.meet(0, 1, 99, 99);
        e.dueGap(even, 0, 0, 1);
        e.dueGap(even, 1, 0, 1);
        MeetingRanks two = Benches.withPlayers(2);
        two.meet(0, 1, 99, 1);
        e.dueGap(two, 0, 49, 1);
        e.dueGap(two, 1, -49, 1);
        two.meet(1, 0, 0, 1);
        e.dueGap(two, 0, 99, 4);
        e.dueGap(two, 1, -99, 4);
        MeetingRanks six = Benches.withPlayers(6);
        for (int i = 0; i < 5; i++) {
            six.meet(i, i + 1, 0, 99);
        }
        e.dueGap(six, 0, -495, 2);
        e.dueGap(six, 5, 495, 2);
    }

    // ---- ROWS

    private void rowIsAllPlayers() {
        MeetingRanks x = Benches.withPlayers(3);
        long[] all = {12, 21, 102, 120, 201, 210};
        for (long row : all) {
            e.due("cost(" + row + ")", x.cost(row), 0);
        }
        e.due("one left out", x.cost(10), NONE);
        e.due("one twice", x.cost(122), NONE);
        e.due("all of them", x.rows(), 6);
    }

    private void againstIsWonFromBehind() {
        MeetingRanks x = Benches.withPlayers(3);
        x.meet(1, 0, 1, 0);
        x.meet(0, 1, 0, 1);
        x.meet(2, 0, 3, 3);
        x.meet(0, 2, 99, 0);
        e.due("1 stands behind 0", x.cost(12), 2);
        e.due("2 behind 0, as it should", x.cost(102), 0);
        e.due("all turned round", x.cost(201), 3);
        e.due("a draw is never AGAINST", x.cost(120), 1);
        MeetingRanks full = Benches.withPlayers(2);
        for (int i = 0; i < 120; i++) {
            full.meet(1, 0, 1, 0);
        }
        e.due("none", full.cost(10), 0);
        e.due("all 120", full.cost(1), 120);
    }

    private void bestIsTheLeastCost() {
        e.due("one alone", new MeetingRanks().best(), 0);
        MeetingRanks x = Benches.withPlayers(2);
        for (int i = 0; i < 120; i++) {
            x.meet(i % 2, 1 - i % 2, 1, 0);
        }
        e.due("60 each way", x.best(), 60);
        x.drop(119);
        e.due("one less", x.best(), 59);
        MeetingRanks draws = Benches.withPlayers(3);
        draws.meet(0, 1, 1, 1);
        e.due("draws cost nothing", draws.best(), 0);
        e.due("a ring", Benches.withWins(3, 0, 1, 1, 2, 2, 0).best(), 1);
    }

    private void firstPlaceCountsFirst() {
        MeetingRanks x = Benches.withWins(3, 2, 0);
        // 1 2 0, 2 0 1 and 2 1 0 have the COST 0.
        e.due("the first place", x.first(), 120);
        MeetingRanks y = Benches.withWins(4, 3, 1);
        e.due("then the second place", y.first(), 231);
        e.due("all alike", Benches.withPlayers(10).first(), 123456789L);
        e.due("a ring", Benches.withWins(3, 0, 1, 1, 2, 2, 0).first(), 12);
    }

    // ---- RINGS, the CORE

    private void ringsInOrder() {
        // 0 1 2 is used first and takes 0 over 1 and 2 over 0, so neither 0 1 3 nor 0 3 2 is left.
        int[] wins = {0, 1, 1, 2, 2, 0, 1, 3, 3, 0, 3, 2, 0, 3};
        MeetingRanks x = Benches.withWins(4, wins);
        e.due("the least three first", x.bound(), 1);
        e.due("BEST", x.best(), 2);
        // The same with the numbers turned round: now those two come ahead of it.
        for (int i = 0; i < wins.length; i++) {
            wins[i] = 3 - wins[i];
        }
        e.due("turned round", Benches.withWins(4, wins).bound(), 2);
        e.due("two PLAYERS have none", Benches.withWins(2, 0, 1, 1, 0).bound(), 0);
        e.due("one PLAYER has none", new MeetingRanks().bound(), 0);
        e.due("the last three", Benches.withWins(10, 7, 8, 8, 9, 9, 7).bound(), 1);
        e.due("the first, the middle, the last", Benches.withWins(10, 0, 5, 5, 9, 9, 0).bound(), 1);
    }

    private void ringsAsLongAsThereAre() {
        MeetingRanks x = Benches.withPlayers(3);
        for (int i = 0; i < 120; i++) {
            x.meet(i % 3, (i + 1) % 3, 1, 0);
            e.due("each third one makes a ring", x.bound(), (i + 1) / 3);
        }
        e.due("BEST", x.best(), 40);
        e.due("2 over 0 is used but once", Benches.withWins(4, 0, 1, 1, 2, 2, 0, 0, 3, 3, 2).bound(), 1);
        e.due("two of them", Benches.withWins(4, 0, 1, 1, 2, 2, 0, 0, 3, 3, 2, 2, 0).bound(), 2);
    }

    private void ringsTheOtherWay() {
        e.due("the other way", Benches.withWins(3, 1, 0, 2, 1, 0, 2).bound(), 1);
        e.due("twice", Benches.withWins(3, 1, 0, 2, 1, 0, 2, 1, 0, 2, 1, 0, 2).bound(), 2);
        e.due("both ways", Benches.withWins(3, 0, 1, 1, 2, 2, 0, 1, 0, 2, 1, 0, 2).bound(), 2);
        e.due("one of three is missing", Benches.withWins(3, 1, 0, 2, 1).bound(), 0);
        e.due("the other way of the last", Benches.withWins(10, 8, 7, 9, 8, 7, 9).bound(), 1);
    }

    private void boundIsNeverAboveBest() {
        for (int seed = 0; seed < 200; seed++) {
            MeetingRanks x = Benches.withPlayers(3 + seed % 6);
            int n = x.about(0);
            for (int i = 0; i < 20 + seed % 40; i++) {
                int a = (seed * 7 + i * 5 + i * i) % n;
                int b = (a + 1 + (seed + i * 3) % (n - 1)) % n;
                x.meet(a, b, 1, 0);
            }
            e.due("BOUND is not above BEST", x.bound() <= x.best(), true);
        }
        MeetingRanks draws = Benches.withPlayers(3);
        draws.meet(0, 1, 1, 1);
        draws.meet(1, 2, 1, 1);
        draws.meet(2, 0, 1, 1);
        e.due("draws make none", draws.bound(), 0);
    }

    private void coreIsOneOrMore() {
        e.due("one alone", new MeetingRanks().core(), 1);
        e.due("nobody met: all", Benches.withPlayers(10).core(), 1023);
        e.due("the last is enough", Benches.withWins(3, 2, 0, 2, 1).core(), 4);
        e.due("2 does not beat 1", Benches.withWins(3, 2, 0).core(), 7);
        e.due("two who each beat the third", Benches.withWins(3, 1, 0, 2, 0).core(), 6);
        e.due("as often is not enough", Benches.withWins(3, 1, 0, 2, 0, 0, 2).core(), 7);
        MeetingRanks line = Benches.inLine(10);
        e.due("ten in line", line.core(), 1);
        line.drop(44);
        e.due("8 and 9 don't matter", line.core(), 1);
        line.drop(0);
        e.due("0 and 1 as good", line.core(), 3);
        line.meet(9, 0, 1, 0);
        e.due("9 as often as 0, and 8 as 9: all", line.core(), 1023);
    }

    private void championBeatsEachOther() {
        MeetingRanks x = Benches.withPlayers(10);
        for (int i = 0; i < 9; i++) {
            e.due("one is left whom it does not beat", x.champion(), NONE);
            x.meet(9, i, 1, 0);
        }
        e.due("all nine", x.champion(), 9);
        e.due("one alone", new MeetingRanks().champion(), 0);
        e.due("two who never met", Benches.withPlayers(2).champion(), NONE);
    }

    private void walkIsARowOfAll() {
        e.due("one alone", new MeetingRanks().walks(), 1);
        e.due("not all are in it", Benches.withWins(3, 0, 1).walks(), 0);
        e.due("each BEATS the next", Benches.withWins(3, 0, 1, 1, 2).walks(), 1);
        e.due("the next, not the one before", Benches.withWins(3, 1, 0, 2, 1).walks(), 1);
        e.due("no two from one", Benches.withWins(3, 0, 1, 0, 2).walks(), 0);
        e.due("a ring", Benches.withWins(3, 0, 1, 1, 2, 2, 0).walks(), 3);
        e.due("as often beats none", Benches.withWins(3, 0, 1, 1, 2, 2, 1).walks(), 0);
    }

    // ---- TO COME

    private void toComeGivesTwo() {
        MeetingRanks x = Benches.withPlayers(3);
        for (int i = 1; i <= 40; i++) {
            e.due("next", x.next(0, 1), i);
        }
        e.due("the 41st", x.next(0, 1), NONE);
        e.due("80 are more than 2 may have", x.may(2), 0);
        // 3 HAS 1 by a draw with 0; what is TO COME must go 1 and 1.
        MeetingRanks draw = Benches.withPlayers(4);
        draw.meet(3, 0, 1, 1);
        draw.next(1, 2);
        e.due("1 and 1", draw.may(3), 1);
        draw.next(1, 2);
        e.due("nobody can do without", draw.may(3), 0);
        // 0 and 3 HAVE 2 each: 1 must have all that is TO COME.
        MeetingRanks one = Benches.withWins(4, 0, 2, 3, 2);
        one.next(0, 1);
        e.due("0 and 2", one.may(3), 1);
        MeetingRanks other = Benches.withWins(4, 0, 2, 3, 2);
        other.next(1, 0);
        e.due("2 and 0", other.may(3), 1);
    }

    private void hasIsTwoAndOne() {
        MeetingRanks x = Benches.withWins(4, 0, 1);
        x.meet(1, 2, 5, 5);
        x.meet(2, 3, 5, 5);
        // HAVE 2, 1, 2, 1.
        e.dueEach("may", x::may, 1, 0, 1, 0);
        e.dueEach("why", x::why, 0, 1, 0, 1);
        x.rule(-10, 10, 10);
        e.dueEach("may, whatever the RULE", x::may, 1, 0, 1, 0);
        x.meet(1, 3, 1, 1);
        e.dueEach("two draws are as much as one won", x::may, 1, 1, 1, 1);
        x.meet(0, 3, 0, 0);
        e.dueEach("one draw more", x::may, 1, 0, 0, 1);
    }

    private void asManyIsEnough() {
        MeetingRanks x = Benches.withPlayers(3);
        e.dueEach("nobody has more than 0", x::may, 1, 1, 1);
        x.meet(0, 1, 1, 1);
        e.dueEach("2 has less", x::may, 1, 1, 0);
        x.next(2, 0);
        e.dueEach("2 may have 2, and 1 can't see both 0 and 2 below 2", x::may, 1, 0, 1);
        x.meet(0, 1, 1, 1);
        e.dueEach("2 and 2 is as many", x::may, 1, 1, 1);
        x.meet(0, 1, 1, 1);
        e.dueEach("3 is more than 2", x::may, 1, 1, 0);
        e.due("one alone", new MeetingRanks().may(0), 1);
    }

    private void theLeastBits() {
        MeetingRanks x = Benches.withWins(4, 2, 3);
        e.due("2 alone", x.why(3), 4);
        x.next(0, 1);
        e.due("0 and 1 together have less bits than 2", x.why(3), 3);
        e.due("others alone", x.why(0) & 1, 0);
        MeetingRanks all = Benches.withPlayers(10);
        for (int i = 0; i < 9; i++) {
            all.next(i, (i + 1) % 9);
        }
        e.due("9 has none, and 0 with 1 is enough", all.why(9), 3);
        for (int i = 0; i < 4; i++) {
            all.meet(9, i, 1, 0);
        }
        e.due("9 has 8", all.why(9), 0);
        MeetingRanks ring = Benches.withPlayers(10);
        for (int i = 1; i < 10; i++) {
            ring.meet(i, i % 9 + 1, 1, 1);
            ring.next(i, i % 9 + 1);
            ring.next(i, i % 9 + 1);
        }
        ring.meet(0, 1, 1, 1);
        ring.meet(0, 1, 1, 1);
        ring.meet(0, 2, 1, 1);
        ring.meet(0, 2, 1, 1);
        // 1 and 2 have 4, the others 2; 0 has 4; 1 and 2 share 4 more.
        e.due("1 and 2", ring.why(0), 6);
        ring.meet(0, 3, 1, 0);
        // 0 has 6: all nine have 22 and 36 to come, which is more than 54; no less set will do.
        e.due("all the others", ring.why(0), 1022);
    }

    private void sureIfLess() {
        // 2 HAS 1: 0 and 1 may have 2 together.
        MeetingRanks x = Benches.withPlayers(4);
        x.meet(2, 3, 1, 1);
        x.next(0, 1);
        e.due("as much is not less", x.why(2), 0);
        x.meet(0, 3, 0, 0);
        e.due("one more", x.why(2), 3);
        x.next(2, 3);
        e.due("even if it wins all its own", x.why(2), 0);
        x.next(0, 3);
        e.due("a MEETING with one outside the set does not count for it", x.why(2), 0);
        x.next(0, 1);
        x.next(0, 1);
        e.due("1 and 6 are more than 3 and 3", x.why(2), 3);
        x.next(2, 0);
        e.due("its own, with one of the set, is won too", x.why(2), 0);
    }

    // ---- acts

    private void actsAreThoseThatWereDone() {
        MeetingRanks x = Benches.busy();
        e.due("15 acts", x.about(4), 15);
        e.due("player", x.player(), 4);
        e.due("player", x.about(4), 16);
        e.due("meet", x.meet(0, 4, 1, 1), 5);
        e.due("meet", x.about(4), 17);
        e.due("sheet", x.sheet(20), 5);
        e.due("sheet of five: one act", x.about(4), 18);
        e.due("drop", x.drop(0), true);
        e.due("drop", x.about(4), 19);
        e.due("next", x.next(0, 4), 4);
        e.due("next", x.about(4), 20);
        e.due("rule", x.rule(3, 1, 0), true);
        e.due("rule", x.about(4), 21);
        e.due("rule that changes nothing", x.rule(3, 1, 0), true);
        e.due("rule that changes nothing", x.about(4), 22);
        e.due("tie", x.tie(0), 3);
        e.due("tie", x.about(4), 23);
        e.due("ties", x.ties(), 3);
        e.due("ties", x.about(4), 24);
        e.due("ties where there are none", x.ties(), 0);
        e.due("ties where there are none", x.about(4), 25);
        e.due("feed", x.feed(0, 0, 0, 0, 0), 20);
        e.due("feed is none", x.about(4), 25);
        e.due("undo", x.undo(5), 5);
        e.due("undo is none, but takes them away", x.about(4), 20);
    }

    private void refusedCallsAreNoActs() {
        MeetingRanks x = Benches.fullOfMeetings(10);
        int acts = x.about(4);
        e.due("player", x.player(), NONE);
        e.due("meet", x.meet(0, 1, 1, 0), NONE);
        e.due("sheet", x.sheet(1), NONE);
        e.due("sheet of none", x.sheet(0), 0);
        e.due("drop", x.drop(120), false);
        e.due("next", x.next(3, 3), NONE);
        e.due("rule", x.rule(0, 0, 11), false);
        e.due("tie", x.tie(6), NONE);
        e.due("undo", x.undo(acts + 1), NONE);
        e.due("undo(0)", x.undo(0), 0);
        e.due("none of them", x.about(4), acts);
    }

    private void askingIsNoAct() {
        e.nothing("score", Benches::busy, x -> x.score(2), Benches.busy().score(2));
        e.nothing("number", Benches::busy, x -> x.number(5, 2), Benches.busy().number(5, 2));
        e.nothing("table", Benches::busy, x -> x.table(0), Benches.busy().table(0));
        e.nothing("tied", Benches::busy, x -> x.tied(1) ? 1 : 0, Benches.busy().tied(1) ? 1 : 0);
        e.nothing("heap", Benches::busy, x -> x.heap(3) + x.heaps(), Benches.busy().heap(3) + Benches.busy().heaps());
        e.nothing("gap", Benches::busy, x -> x.gap(3, 0), Benches.busy().gap(3, 0));
        e.nothing("cost", Benches::busy, x -> x.cost(3210), Benches.busy().cost(3210));
        e.nothing("best", Benches::busy, x -> x.best(), Benches.busy().best());
        e.nothing("rows", Benches::busy, x -> x.rows(), Benches.busy().rows());
        e.nothing("first", Benches::busy, x -> x.first(), Benches.busy().first());
        e.nothing("bound", Benches::busy, x -> x.bound(), Benches.busy().bound());
        e.nothing("core", Benches::busy, x -> x.core(), Benches.busy().core());
        e.nothing("champion", Benches::busy, x -> x.champion(), Benches.busy().champion());
        e.nothing("walks", Benches::busy, x -> x.walks(), Benches.busy().walks());
        e.nothing("may", Benches::busy, x -> x.may(1), Benches.busy().may(1));
        e.nothing("why", Benches::busy, x -> x.why(1), Benches.busy().why(1));
        e.nothing("meeting", Benches::busy, x -> x.meeting(2, 1), Benches.busy().meeting(2, 1));
        e.nothing("over", Benches::busy, x -> x.over(0, 1), Benches.busy().over(0, 1));
        e.nothing("about", Benches::busy, x -> x.about(5), 20);
    }

    private void theLastForty() {
        for (int acts = 38; acts <= 43; acts++) {
            MeetingRanks x = Benches.withPlayers(2);
            for (int i = 1; i < acts; i++) {
                x.meet(0, 1, i, 0);
            }
            int left = Math.min(acts, 40);
            e.due(acts + " acts: can be UNDONE", x.about(4), left);
            e.due(acts + " acts: one too many", x.undo(left + 1), NONE);
            e.due(acts + " acts: all", x.undo(left), left);
            e.due(acts + " acts: MEETINGS", x.about(1), Math.max(0, acts - 1 - left));
            e.due(acts + " acts: PLAYERS", x.about(0), acts <= 40 ? 1 : 2);
            e.due(acts + " acts: no more", x.about(4), 0);
            e.due(acts + " acts: no more", x.undo(1), NONE);
        }
        // Over and over behind the fortieth, with some undone in between.
        MeetingRanks x = Benches.withPlayers(2);
        for (int i = 0; i < 200; i++) {
            x.rule(i % 11, i / 11 % 11, 0);
            if (i % 50 == 49) {
                e.due("undo", x.undo(3), 3);
            }
        }
        e.due("37 are left", x.about(4), 37);
        x.meet(0, 1, 1, 0);
        x.meet(0, 1, 1, 1);
        e.due("from the latest on: the rule of 196", x.score(0), 196 % 11 + 196 / 11 % 11);
        e.due("undo", x.undo(3), 3);
        x.meet(0, 1, 1, 0);
        e.due("the rule of 195", x.score(0), 195 % 11);
        e.due("36 and one", x.about(4), 37);
        e.due("undo", x.undo(37), 37);
        x.meet(0, 1, 1, 0);
        e.due("the rule of 159, which is forgotten", x.score(0), 159 % 11);
    }

    private void latestFirst() {
        MeetingRanks x = Benches.withPlayers(2);
        x.rule(3, 0, 0);
        x.meet(0, 1, 1, 0);
        x.rule(5, 0, 0);
        x.undo(1);
        e.due("the latest rule alone", x.score(0), 3);
        x.undo(1);
        e.due("then the MEETING", x.about(1), 0);
        x.undo(1);
        x.meet(0, 1, 1, 0);
        e.due("then the rule before", x.score(0), 2);
    }

    private void noneIsMinusOne() {
        e.due("NONE", MeetingRanks.NONE, -1);
    }

    private void holdFor512Calls() {
        MeetingRanks x = Benches.withPlayers(10);
        int calls = 9;
        for (int i = 0; i < 120; i++, calls++) {
            x.meet(SCRAMBLED[i % 9], SCRAMBLED[i % 9 + 1], 1, 0);
        }
        for (; calls < 505; calls += 2) {
            x.drop(calls % 120);
            x.undo(1);
        }
        e.due("calls", calls, 505);
        e.due("the 506th", x.first(), 5280917364L);
        e.due("the 507th", x.rule(1, 1, 1), true);
        e.due("the 508th", x.meet(0, 1, 1, 0), NONE);
        e.due("the 509th", x.undo(40), 40);
        e.due("the 510th", x.about(1), 81);
        e.due("the 511th", x.walks(), 1);
        e.due("the 512th", x.best(), 0);
    }

    private void hold(String words, Runnable test) {
        e.holds("Terms", words, test);
    }

    private void ofMeetings() {
        hold("PLAYERS 0 .. n - 1 (n 1 .. 10).", this::oneToTenPlayers);
        hold("MEETINGS (120 at most, in the order in which they came)", this::atMost120InOrder);
        hold("are of two different PLAYERS a, b", this::twoDifferentPlayers);
        hold("with points p, q (0 .. 99):", this::pointsFrom0To99);
        hold("a WON if p is above q, LOST if below, else both DREW.", this::wonLostDrew);
        hold("OVER ( a, b ) is how often a WON against b.", this::overCountsEachTime);
        hold("a BEATS b if OVER ( a, b ) is above OVER ( b, a ).", this::asOftenBeatsNone);
    }

    private void ofTheTable() {
        hold("SCORE of a PLAYER by a RULE ( won, drawn, lost: each -10 .. 10; 2, 1, 0 at first): "
                + "the sum over its MEETINGS.", this::scoresAtTheEdges);
        hold("A row of up to 4 TIES (none at first), each of a KIND,", this::upToFourTies);
        hold("which gives each PLAYER a number:", this::eachPlayerHasANumber);
        hold("0 how often it WON;", this::kindWins);
        hold("1 its points less those of its foes;", this::kindLead);
        hold("2 its points;", this::kindPoints);
        hold("3 the SCORES of its foes, MEETING by MEETING;", this::kindFoes);
        hold("4 twice the SCORES of those whom it beat in a MEETING, once of those with whom it DREW, "
                + "MEETING by MEETING;", this::kindBeaten);
        hold("5 its SCORE by MEETINGS with those alone that are as good as it by SCORE and by the TIES ahead "
                + "of this one.", this::kindAmong);
        hold("THE TABLE is all PLAYERS by SCORE, the greatest first;", this::tableByScore);
        hold("of as many by the first of the TIES, the greatest first; then by the second, and on;",
                this::tableByTies);
        hold("at last by their numbers, the least first.", this::tableByNumbersAtLast);
        hold("TIED are neighbours in it of which just the numbers tell.", this::tiedByNumbersAlone);
    }

    private void ofHeapsAndGaps() {
        hold("a REACHES b if it WON against or DREW with b in some MEETING, or with one that REACHES b, and on; "
                + "each REACHES itself.", this::reachesOnAndOn);
        hold("A HEAP is all that REACH one another.", this::heapIsAllThatReachOneAnother);
        hold("A HEAP LEADS another one if one of it REACHES one of that.", this::leadsThroughOthers);
        hold("HEAPS are numbered from 0 on: again and again the next is, of those that none LEADS but those that "
                + "have numbers, the one with the least PLAYER.", this::heapsNumberedAgainAndAgain);
        hold("GAPS are asked of 6 PLAYERS at most who are JOINED", this::gapsOfSixAtMost);
        hold("JOINED (each led to from each other one by MEETINGS):", this::joinedByMeetings);
        hold("numbers x, of sum 0, for which the sum over MEETINGS of ( x ( a ) - x ( b ) - ( p - q ) ) squared "
                + "is least:", this::gapsAreLeastSquares);
        hold("fractions in lowest terms, the denominator above 0.", this::gapsInLowestTerms);
    }

    private void ofRows() {
        hold("A ROW is all PLAYERS in an order.", this::rowIsAllPlayers);
        hold("AGAINST it is each MEETING which one WON who stands behind the other: COST is how many.",
                this::againstIsWonFromBehind);
        hold("BEST is the least COST of all ROWS;", this::bestIsTheLeastCost);
        hold("FIRST of those with it that whose PLAYERS, from the first on, are the least (the first place counts "
                + "first).", this::firstPlaceCountsFirst);
        hold("RINGS: three PLAYERS a, b, c, a less than b, less than c: in order by a, then b, then c;",
                this::ringsInOrder);
        hold("for each, as long as there are three MEETINGS, not used yet, won by a over b, b over c, c over a, "
                + "these are used;", this::ringsAsLongAsThereAre);
        hold("then as long as there are such won by b over a, c over b, a over c.", this::ringsTheOtherWay);
        hold("BOUND is how many threes are used so (BEST is never less).", this::boundIsNeverAboveBest);
        hold("CORE is the least set of PLAYERS, one or more, each of which BEATS each outside it.",
                this::coreIsOneOrMore);
        hold("CHAMPION is the one who BEATS each other one.", this::championBeatsEachOther);
        hold("A WALK is a ROW in which each BEATS the next.", this::walkIsARowOfAll);
    }

    private void ofWhatIsToCome() {
        hold("TO COME are MEETINGS of two (40 at most), of which each gives two together: 2 and 0, 1 and 1, "
                + "or 0 and 2.", this::toComeGivesTwo);
        hold("HAS is what a PLAYER has by MEETINGS: 2 for each WON, 1 for each DRAWN.", this::hasIsTwoAndOne);
        hold("A PLAYER MAY COME FIRST if what is TO COME can go so that nobody has more than it in the end.",
                this::asManyIsEnough);
        hold("If not, WHY is a set of others (the one whose bits are least)", this::theLeastBits);
        hold("of whom it is sure: even if it wins all its own, what they may have together without passing it is "
                + "less than they HAVE and what those TO COME give of which both are of the set.", this::sureIfLess);
    }

    private void ofActs() {
        hold("Acts are: player, meet, sheet, drop, next, rule, tie, ties,", this::actsAreThoseThatWereDone);
        hold("when they were done;", this::refusedCallsAreNoActs);
        hold("Acts are:", this::askingIsNoAct);
        hold("the last 40 can be UNDONE,", this::theLastForty);
        hold("from the latest on.", this::latestFirst);
        hold("The constants: NONE = -1: There is none.", this::noneIsMinusOne);
        e.holds("What it is", "An object is used for at most 512 calls after it has been made;",
                this::holdFor512Calls);
    }

    public static void main(String[] args) throws IOException {
        Edges e = new Edges(Path.of(args.length > 1 ? args[1] : "../shared/DOC.md"));
        EdgesOfTermsTest t = new EdgesOfTermsTest(e);
        t.ofMeetings();
        t.ofTheTable();
        t.ofHeapsAndGaps();
        t.ofRows();
        t.ofWhatIsToCome();
        t.ofActs();
        e.end("Terms");
    }
}
