/** Promise by promise, by hand: ordinary calls, the edges that the document names, and wrong parts. */
public final class PromisesTest {
    private static final int NONE = -1;
    private static final int LOW = Benches.LOW;
    private static final int HIGH = Benches.HIGH;

    private final Check check = new Check();

    private void dueAbout(String when, MeetingRanks x, int... want) {
        for (int what = 0; what < want.length; what++) {
            check.due(when + ": about(" + what + ")", x.about(what), want[what]);
        }
    }

    private void dueTable(String when, MeetingRanks x, int... want) {
        for (int k = 0; k < want.length; k++) {
            check.due(when + ": table(" + k + ")", x.table(k), want[k]);
        }
        check.due(when + ": table(n)", x.table(want.length), NONE);
    }

    private void dueGap(String when, MeetingRanks x, int player, long above, long below) {
        check.due(when + ": gap(" + player + ", 0)", x.gap(player, 0), above);
        check.due(when + ": gap(" + player + ", 1)", x.gap(player, 1), below);
    }

    private void promise01New() {
        MeetingRanks x = new MeetingRanks();
        dueAbout("new", x, 1, 0, 0, 0, 0, 0, 1);
        check.due("new: score", x.score(0), 0);
        check.due("new: table", x.table(0), 0);
        check.due("new: heap", x.heap(0), 0);
        check.due("new: may", x.may(0), 1);
        check.due("new: why", x.why(0), 0);
        check.due("new: ties", x.ties(), 0);
        check.due("new: undo(0)", new MeetingRanks().undo(0), 0);
        check.due("new: undo(1)", new MeetingRanks().undo(1), NONE);
        check.due("NONE", MeetingRanks.NONE, -1);
    }

    private void promise02Player() {
        MeetingRanks x = new MeetingRanks();
        for (int i = 1; i < 10; i++) {
            check.due("player", x.player(), i);
            check.due("players", x.about(0), i + 1);
        }
        check.due("the 11th player", x.player(), NONE);
        dueAbout("10 players", x, 10, 0, 0, 0, 9, 0, 0);
        x.undo(1);
        check.due("player again", x.player(), 9);
    }

    private void promise03Meet() {
        MeetingRanks x = Benches.withPlayers(3);
        int[][] wrong = {{0, 0, 1, 1}, {0, 3, 1, 1}, {3, 0, 1, 1}, {-1, 0, 1, 1}, {0, -1, 1, 1}, {0, 1, -1, 0},
            {0, 1, 0, -1}, {0, 1, 100, 0}, {0, 1, 0, 100}, {LOW, HIGH, 0, 0}, {0, 1, HIGH, LOW}};
        for (int[] m : wrong) {
            check.due("meet that can't be", x.meet(m[0], m[1], m[2], m[3]), NONE);
        }
        dueAbout("after wrong ones", x, 3, 0, 0, 0, 2, 0, 0);
        check.due("the points' edges", x.meet(2, 1, 99, 0), 1);
        check.due("the points' edges", x.meet(2, 1, 0, 99), 2);
        for (int i = 3; i <= 120; i++) {
            check.due("meet", x.meet(0, 1, 1, 0), i);
        }
        check.due("the 121st meeting", x.meet(0, 1, 1, 0), NONE);
        dueAbout("120 meetings", x, 3, 120, 0, 0, 40, 0, 1);
        x.drop(0);
        check.due("one more again", x.meet(0, 2, 1, 0), 120);
    }

    private void promise04Feed() {
        MeetingRanks x = Benches.withPlayers(2);
        for (int i = 1; i <= 24; i++) {
            check.due("feed", x.feed(0x00010203, LOW, HIGH, -1, 0), 20 * i);
        }
        check.due("feed beyond 480", x.feed(0, 0, 0, 0, 0), NONE);
        dueAbout("480 bytes", x, 2, 0, 0, 0, 1, 480, 0);
        check.due("sheet of the tape", x.sheet(480), 1);
        check.due("the highest byte first, a", x.meeting(0, 0), 0);
        check.due("the highest byte first, b", x.meeting(0, 1), 1);
        check.due("the highest byte first, p", x.meeting(0, 2), 2);
        check.due("the highest byte first, q", x.meeting(0, 3), 3);
        check.due("empty again", x.feed(0, 0, 0, 0, 0), 20);
    }

    private void promise05Sheet() {
        MeetingRanks x = Benches.withPlayers(2);
        check.due("nothing on the tape", x.sheet(0), 0);
        check.due("more than the tape has", x.sheet(1), NONE);
        x.feed(0x00010100, 0x01000063, 0x00016300, 0x00010000, 0x00010201);
        check.due("below 0", x.sheet(-1), NONE);
        check.due("below 0", x.sheet(LOW), NONE);
        check.due("one too many", x.sheet(21), NONE);
        dueAbout("refused", x, 2, 0, 0, 0, 1, 20, 0);
        check.due("all five", x.sheet(20), 5);
        dueAbout("five came", x, 2, 5, 0, 0, 2, 0, 1);
        check.due("in their order", x.meeting(4, 2), 2);
        check.due("undone as one act", x.undo(1), 1);
        dueAbout("undone", x, 2, 0, 0, 0, 1, 0, 0);
        x.feed(0x00010100, 0x01000063, 0x00016300, 0x00010000, 0x00010201);
        check.due("the fourth is cut off", x.sheet(15), 3);
        dueAbout("the tape is empty", x, 2, 3, 0, 0, 2, 0, 1);
        x.feed(0x00010100, 0x01000063, 0, 0, 0);
        check.due("none asked", x.sheet(0), 0);
        dueAbout("the tape is empty, and no act", x, 2, 3, 0, 0, 2, 0, 1);
        x.feed(0x00010100, 0x00020000, 0x00010100, 0, 0);
        check.due("until one can't be", x.sheet(20), 1);
        x.feed(0x00016400, 0x00010100, 0x00010100, 0x00010100, 0x00010100);
        check.due("the first can't be: points", x.sheet(20), 0);
        x.feed(0x800100ff, 0x00010100, 0, 0, 0);
        check.due("the first can't be: a byte above 127", x.sheet(20), 0);
        dueAbout("no act", x, 2, 4, 0, 0, 3, 0, 1);
        for (int i = 0; i < 113; i++) {
            x.meet(0, 1, 0, 0);
        }
        x.feed(0x00010100, 0x01000063, 0x00016300, 0x00010000, 0x00010201);
        check.due("until there are 120", x.sheet(20), 3);
        check.due("120", x.about(1), 120);
        x.feed(0x00010100, 0, 0, 0, 0);
        check.due("none is left", x.sheet(20), 0);
    }

    private void promise06Drop() {
        MeetingRanks x = Benches.withWins(3, 0, 1, 1, 2, 2, 0);
        for (int k : new int[] {-1, 3, LOW, HIGH}) {
            check.due("drop of none", x.drop(k), false);
        }
        dueAbout("refused", x, 3, 3, 0, 0, 5, 0, 1);
        check.due("drop", x.drop(1), true);
        dueAbout("dropped", x, 3, 2, 0, 0, 6, 0, 1);
        check.due("the one behind came up", x.meeting(1, 0), 2);
        check.due("over", x.over(1, 2), 0);
        check.due("score", x.score(1), 0);
        check.due("undo", x.undo(1), 1);
        check.due("back at its place", x.meeting(1, 0), 1);
        check.due("back at its place", x.meeting(1, 1), 2);
        check.due("back behind it", x.meeting(2, 0), 2);
        check.due("over", x.over(1, 2), 1);
    }

    private void promise07Next() {
        MeetingRanks x = Benches.withPlayers(3);
        int[][] wrong = {{0, 0}, {0, 3}, {3, 0}, {-1, 0}, {0, -1}, {LOW, 1}, {1, HIGH}};
        for (int[] g : wrong) {
            check.due("next that can't be", x.next(g[0], g[1]), NONE);
        }
        dueAbout("refused", x, 3, 0, 0, 0, 2, 0, 0);
        for (int i = 1; i <= 40; i++) {
            check.due("next", x.next(i % 2, 2), i);
        }
        check.due("the 41st", x.next(0, 1), NONE);
        dueAbout("40 to come", x, 3, 0, 40, 0, 40, 0, 0);
        check.due("undo", x.undo(1), 1);
        check.due("next again", x.next(0, 1), 40);
    }

    private void promise08Rule() {
        MeetingRanks x = Benches.withWins(3, 0, 1);
        x.meet(0, 2, 4, 4);
        for (int wrong : new int[] {-11, 11, LOW, HIGH}) {
            check.due("rule: won", x.rule(wrong, 0, 0), false);
            check.due("rule: drawn", x.rule(0, wrong, 0), false);
            check.due("rule: lost", x.rule(0, 0, wrong), false);
        }
        dueAbout("refused", x, 3, 2, 0, 0, 4, 0, 1);
        check.due("at first", x.score(0), 3);
        check.due("rule", x.rule(10, -10, 7), true);
        check.due("won and drew", x.score(0), 0);
        check.due("lost", x.score(1), 7);
        check.due("drew", x.score(2), -10);
        dueTable("by this rule", x, 1, 0, 2);
        check.due("rule", x.rule(-10, 10, -10), true);
        check.due("lost", x.score(1), -10);
        check.due("undo", x.undo(2), 2);
        check.due("as at first", x.score(0), 3);
    }

    private void promise09Tie() {
        MeetingRanks x = Benches.withPlayers(2);
        for (int kind : new int[] {-1, 6, LOW, HIGH}) {
            check.due("no such kind", x.tie(kind), NONE);
        }
        dueAbout("refused", x, 2, 0, 0, 0, 1, 0, 0);
        for (int i = 0; i < 4; i++) {
            check.due("tie", x.tie(i == 3 ? 5 : 0), i + 1);
        }
        check.due("the fifth", x.tie(0), NONE);
        dueAbout("4 ties", x, 2, 0, 0, 4, 5, 0, 0);
    }

    private void promise10Ties() {
        MeetingRanks x = Benches.withPlayers(3);
        x.meet(0, 1, 1, 1);
        x.meet(1, 2, 3, 3);
        x.meet(2, 0, 2, 2);
        x.tie(1);
        x.tie(2);
        x.tie(3);
        x.tie(4);
        dueTable("by points", x, 2, 1, 0);
        check.due("ties", x.ties(), 4);
        check.due("none left", x.about(3), 0);
        dueTable("by numbers", x, 0, 1, 2);
        check.due("ties again, an act too", x.ties(), 0);
        check.due("acts", x.about(4), 11);
        check.due("undo", x.undo(2), 2);
        check.due("all back", x.about(3), 4);
        dueTable("by points", x, 2, 1, 0);
        for (int teller = 0; teller < 4; teller++) {
            x.ties();
            for (int i = 0; i < 4; i++) {
                x.tie(i == teller ? 2 : 0);
            }
            x.ties();
            check.due("undo", x.undo(1), 1);
            dueTable("each is back at its place: " + teller, x, 2, 1, 0);
        }
    }

    private void promise11Meeting() {
        MeetingRanks x = Benches.withPlayers(3);
        x.meet(2, 1, 7, 99);
        x.meet(0, 2, 5, 0);
        int[][] want = {{2, 1, 7, 99}, {0, 2, 5, 0}};
        for (int k = 0; k < 2; k++) {
            for (int what = 0; what < 4; what++) {
                check.due("meeting", x.meeting(k, what), want[k][what]);
            }
        }
        for (int none : new int[] {-1, 4, LOW, HIGH}) {
            check.due("no such part", x.meeting(0, none), NONE);
            check.due("no such meeting", x.meeting(none, 0), NONE);
        }
        check.due("no such meeting", x.meeting(2, 0), NONE);
    }

    private void promise12Over() {
        MeetingRanks x = Benches.withWins(3, 0, 1, 0, 1, 1, 0);
        x.meet(1, 0, 2, 3);
        x.meet(1, 0, 2, 2);
        check.due("over", x.over(0, 1), 3);
        check.due("over", x.over(1, 0), 1);
        check.due("over", x.over(0, 2), 0);
        int[][] wrong = {{0, 0}, {0, 3}, {3, 0}, {-1, 0}, {0, -1}, {LOW, 1}, {1, HIGH}, {3, 3}};
        for (int[] g : wrong) {
            check.due("over that is none", x.over(g[0], g[1]), NONE);
        }
    }

    private void promise13Score() {
        MeetingRanks x = Benches.withWins(3, 0, 1, 0, 2);
        x.meet(2, 1, 0, 0);
        check.due("score", x.score(0), 4);
        check.due("score", x.score(1), 1);
        check.due("score", x.score(2), 1);
        for (int none : new int[] {-1, 3, LOW, HIGH}) {
            check.due("score of none", x.score(none), 0);
        }
    }

    private void promise14Number() {
        MeetingRanks x = Benches.withPlayers(4);
        x.meet(0, 1, 3, 1);
        x.meet(1, 0, 4, 2);
        x.meet(0, 2, 1, 1);
        x.meet(2, 3, 0, 5);
        x.meet(0, 1, 6, 0);
        // SCORES: 0: 2 + 2 + 1 = 5, 1: 2, 2: 1, 3: 2.
        int[][] want = {{2, 1, 0, 1}, {6, -6, -5, 5}, {12, 5, 1, 5}, {7, 15, 7, 1}, {9, 10, 5, 2}, {0, 0, 0, 0}};
        for (int kind = 0; kind < 6; kind++) {
            for (int player = 0; player < 4; player++) {
                check.due("number(" + kind + ", " + player + ")", x.number(kind, player), want[kind][player]);
            }
        }
        x.meet(1, 3, 2, 2);
        check.due("as good by score", x.number(5, 1), 1);
        check.due("as good by score", x.number(5, 3), 1);
        x.tie(2);
        check.due("by score alone, whatever the ties are", x.number(5, 3), 1);
        for (int none : new int[] {-1, 6, LOW, HIGH}) {
            check.due("no such kind", x.number(none, 0), 0);
            check.due("no such player", x.number(2, none), 0);
        }
    }

    private void promise15Table() {
        MeetingRanks x = Benches.withWins(4, 3, 0, 3, 1, 3, 2, 1, 0);
        dueTable("by score, then by numbers", x, 3, 1, 0, 2);
        for (int none : new int[] {-1, 4, LOW, HIGH}) {
            check.due("no such place", x.table(none), NONE);
        }
        x.meet(2, 0, 5, 5);
        x.meet(2, 0, 9, 0);
        dueTable("by score", x, 3, 2, 1, 0);
        // 1 and 2 of as many by the SCORE, the first of the TIES, and the second.
        MeetingRanks y = Benches.withPlayers(5);
        y.meet(1, 0, 1, 0);
        y.meet(2, 0, 1, 0);
        y.meet(2, 1, 0, 0);
        y.meet(3, 4, 0, 0);
        dueTable("no ties", y, 1, 2, 3, 4, 0);
        y.tie(0);
        y.tie(3);
        dueTable("two ties that tell nothing", y, 1, 2, 3, 4, 0);
        y.meet(0, 4, 0, 1);
        y.meet(0, 3, 0, 2);
        y.meet(1, 3, 0, 0);
        y.meet(2, 4, 0, 0);
        // SCORES 0: 0, 1: 4, 2: 4, 3: 4, 4: 4; wins 1 each; foes: all alike too.
        dueTable("of as many", y, 1, 2, 3, 4, 0);
        y.tie(1);
        dueTable("the third tie tells", y, 3, 1, 2, 4, 0);
        tieAmongTwice();
    }

    /** KIND 5 looks at those alone that are as good by the SCORE and by all TIES ahead of it. */
    private void tieAmongTwice() {
        MeetingRanks x = Benches.withPlayers(4);
        x.meet(1, 0, 1, 0);
        x.meet(2, 1, 3, 2);
        x.meet(0, 2, 7, 6);
        x.meet(3, 0, 1, 0);
        x.meet(1, 3, 1, 0);
        x.meet(3, 2, 5, 5);
        x.meet(0, 2, 4, 4);
        x.meet(0, 1, 0, 0);
        x.meet(1, 2, 0, 0);
        // SCORES 0: 2+1+1 = 4, 1: 2+2+1+1 = 6, 2: 2+1+1+1 = 5, 3: 2+1 = 3.
        dueTable("by score", x, 1, 2, 0, 3);
        x.rule(1, 1, 1);
        // SCORES 0: 5, 1: 5, 2: 5, 3: 3; among 0, 1, 2 alone: 4 each.
        x.tie(5);
        dueTable("among themselves as many", x, 0, 1, 2, 3);
        check.due("tied", x.tied(0), true);
        check.due("tied", x.tied(1), true);
        x.tie(2);
        // Points 0: 0+7+0+4+0 = 11, 1: 1+2+1+0+0 = 4, 2: 3+6+5+4+0 = 18.
        dueTable("by points", x, 2, 0, 1, 3);
        MeetingRanks y = Benches.withPlayers(4);
        y.meet(0, 1, 1, 0);
        y.meet(1, 2, 5, 0);
        y.meet(2, 0, 5, 0);
        y.meet(3, 2, 2, 1);
        y.meet(3, 1, 0, 3);
        y.meet(0, 3, 0, 3);
        y.meet(2, 3, 9, 9);
        // SCORES 0: 2, 1: 4, 2: 3, 3: 5.
        dueTable("by score", y, 3, 1, 2, 0);
        y.rule(0, 0, 0);
        y.tie(0);
        // wins 0: 1, 1: 2, 2: 1, 3: 2.
        dueTable("by wins", y, 1, 3, 0, 2);
        y.tie(5);
        dueTable("the rule gives nothing", y, 1, 3, 0, 2);
        check.due("tied", y.tied(0), true);
        y.rule(0, 0, 1);
        // SCORES are now what was lost: 0: 2, 1: 1, 2: 2, 3: 1; wins 0: 1, 2: 1, 1: 2, 3: 2; 0 lost to 2, 3 lost to 1.
        dueTable("lost counts, among the two", y, 0, 2, 3, 1);
        check.due("not tied", y.tied(0), false);
    }

    private void promise16Tied() {
        MeetingRanks x = Benches.withPlayers(4);
        x.meet(0, 1, 2, 2);
        check.due("0 and 1", x.tied(0), true);
        check.due("1 and 2", x.tied(1), false);
        check.due("2 and 3", x.tied(2), true);
        for (int none : new int[] {-1, 3, 4, LOW, HIGH}) {
            check.due("tied of none", x.tied(none), false);
        }
        x.meet(2, 3, 1, 1);
        x.tie(2);
        check.due("0 and 1", x.tied(0), true);
        check.due("1 and 2, whom the tie tells apart", x.tied(1), false);
        check.due("2 and 3", x.tied(2), true);
        x.undo(1);
        check.due("1 and 2 without the tie", x.tied(1), true);
        check.due("one alone", new MeetingRanks().tied(0), false);
    }

    private void promise17and18Heaps() {
        MeetingRanks x = Benches.withPlayers(5);
        check.due("each alone", x.heaps(), 5);
        for (int i = 0; i < 5; i++) {
            check.due("each alone", x.heap(i), i);
        }
        x.meet(4, 0, 1, 0);
        // None LEADS 1, 2, 3, 4; once 4 has its number 0 is the next.
        int[] want = {4, 0, 1, 2, 3};
        for (int i = 0; i < 5; i++) {
            check.due("4 leads 0", x.heap(i), want[i]);
        }
        x.undo(1);
        x.meet(2, 0, 1, 0);
        int[] second = {2, 0, 1, 3, 4};
        for (int i = 0; i < 5; i++) {
            check.due("2 leads 0, which comes at once behind it", x.heap(i), second[i]);
        }
        x.meet(0, 3, 2, 2);
        check.due("a draw leads both ways", x.heaps(), 4);
        check.due("a draw leads both ways", x.heap(3), x.heap(0));
        x.meet(3, 4, 0, 1);
        x.meet(4, 2, 0, 1);
        check.due("2 over 4 over 3", x.heaps(), 4);
        x.meet(0, 2, 1, 0);
        check.due("a ring", x.heaps(), 2);
        for (int none : new int[] {-1, 5, LOW, HIGH}) {
            check.due("heap of none", x.heap(none), NONE);
        }
        MeetingRanks line = Benches.inLine(10);
        check.due("ten heaps", line.heaps(), 10);
        check.due("the last", line.heap(9), 9);
        line.meet(9, 0, 1, 0);
        check.due("all in one", line.heaps(), 1);
    }

    private void promise19Gap() {
        MeetingRanks x = Benches.withPlayers(6);
        check.due("not joined", x.gap(0, 1), 0);
        for (int i = 0; i < 5; i++) {
            x.meet(i, i + 1, 1, 0);
        }
        dueGap("six in line", x, 0, 5, 2);
        dueGap("six in line", x, 2, 1, 2);
        dueGap("six in line", x, 5, -5, 2);
        x.meet(0, 5, 0, 0);
        dueGap("five steps and back", x, 0, 5, 12);
        for (int none : new int[] {-1, 6, LOW, HIGH}) {
            check.due("gap of none", x.gap(none, 1), 0);
            check.due("no such part", x.gap(0, none), 0);
        }
        check.due("no such part", x.gap(0, 2), 0);
        x.player();
        x.meet(6, 0, 0, 0);
        check.due("all seven are joined", x.about(6), 1);
        check.due("but that is too many", x.gap(0, 1), 0);
        x.undo(2);
        dueGap("six again", x, 0, 5, 12);
        MeetingRanks two = Benches.withPlayers(2);
        for (int i = 0; i < 120; i++) {
            two.meet(0, 1, i < 60 ? 99 : 0, 0);
        }
        dueGap("the mean", two, 0, 99, 4);
        dueGap("the mean", two, 1, -99, 4);
        MeetingRanks even = Benches.withPlayers(2);
        even.meet(0, 1, 3, 3);
        dueGap("0 is 0 over 1", even, 0, 0, 1);
        dueGap("one alone", new MeetingRanks(), 0, 0, 1);
    }

    /** The largest numbers on the way: 120 MEETINGS of 6, the greatest leads. */
    private void promise19LargeGaps() {
        Model model = new Model();
        MeetingRanks x = Benches.withPlayers(6);
        for (int i = 1; i < 6; i++) {
            model.player();
        }
        int[] points = {99, 0, 98, 1, 97, 2, 95};
        for (int i = 0; i < 120; i++) {
            int a = i % 6;
            int b = (a + 1 + i / 6 % 5) % 6;
            int p = points[i % 7];
            int q = 99 - points[i * 3 % 7];
            x.meet(a, b, p, q);
            model.meet(a, b, p, q);
            // Each fourth time, so that the object stays within its 512 calls.
            for (int player = 0; player < 6 && i % 4 == 3; player++) {
                check.due("large gap, above", x.gap(player, 0), model.gap(player, 0));
                check.due("large gap, below", x.gap(player, 1), model.gap(player, 1));
            }
        }
    }

    private void promise20Cost() {
        MeetingRanks x = Benches.withWins(3, 0, 1, 1, 2, 2, 0);
        x.meet(0, 2, 2, 2);
        x.meet(0, 2, 1, 2);
        check.due("0 1 2", x.cost(12), 2);
        check.due("2 0 1", x.cost(201), 1);
        check.due("0 2 1", x.cost(21), 3);
        long[] wrong = {-1, 0, 11, 13, 100, 112, 1012, 3210, 1000000000012L, Long.MIN_VALUE, Long.MAX_VALUE};
        for (long row : wrong) {
            check.due("cost(" + row + ")", x.cost(row), NONE);
        }
        MeetingRanks line = Benches.inLine(10);
        check.due("ten in line", line.cost(123456789L), 0);
        check.due("ten turned round", line.cost(9876543210L), 45);
        check.due("one digit twice", line.cost(9876543211L), NONE);
        check.due("too few digits", line.cost(12345678L), NONE);
        check.due("one alone", new MeetingRanks().cost(0), 0);
        check.due("one alone", new MeetingRanks().cost(1), NONE);
        check.due("one alone", new MeetingRanks().cost(10), NONE);
    }

    private void promise21to23Rows() {
        MeetingRanks line = Benches.inLine(10);
        check.due("in line: best", line.best(), 0);
        check.due("in line: rows", line.rows(), 1);
        check.due("in line: first", line.first(), 123456789L);
        line.meet(9, 0, 1, 0);
        check.due("one against: best", line.best(), 1);
        check.due("one against: rows", line.rows(), 1);
        line.drop(8);
        check.due("9 over 0, and none back: best", line.best(), 1);
        check.due("9 over 0, and none back: rows", line.rows(), 1);
        check.due("9 over 0, and none back: first", line.first(), 123456789L);
        MeetingRanks none = Benches.withPlayers(10);
        check.due("ten without meetings: best", none.best(), 0);
        check.due("ten without meetings: rows", none.rows(), 3628800);
        check.due("ten without meetings: first", none.first(), 123456789L);
        none.meet(9, 0, 1, 0);
        check.due("half of them", none.rows(), 1814400);
        check.due("the least with 9 ahead of 0", none.first(), 1234567890L);
        none.undo(1);
        check.due("undone", none.rows(), 3628800);
        none.undo(1);
        check.due("nine", none.rows(), 362880);
        MeetingRanks ring = Benches.withWins(3, 0, 1, 1, 2, 2, 0, 2, 0);
        check.due("a ring: best", ring.best(), 1);
        check.due("a ring: rows", ring.rows(), 2);
        check.due("a ring: first", ring.first(), 120);
        ring.drop(0);
        check.due("no ring: best", ring.best(), 0);
        check.due("no ring: first", ring.first(), 120);
        ring.undo(1);
        check.due("the ring again", ring.best(), 1);
    }

    private void promise24Bound() {
        check.due("too few", Benches.withWins(2, 0, 1, 1, 0).bound(), 0);
        check.due("a ring", Benches.withWins(3, 0, 1, 1, 2, 2, 0).bound(), 1);
        check.due("a ring the other way", Benches.withWins(3, 1, 0, 2, 1, 0, 2).bound(), 1);
        check.due("both ways", Benches.withWins(3, 1, 0, 2, 1, 0, 2, 0, 1, 1, 2, 2, 0, 0, 1, 1, 2, 2, 0).bound(), 3);
        // The ring 0 1 2 comes first and uses up 2 over 0, so 0 3 2 and 1 2 3 find no more.
        check.due("greedy", Benches.withWins(4, 0, 1, 1, 2, 2, 0, 0, 3, 3, 2).bound(), 1);
        check.due("greedy, with one more", Benches.withWins(4, 0, 1, 1, 2, 2, 0, 0, 3, 3, 2, 2, 0).bound(), 2);
        MeetingRanks draws = Benches.withPlayers(3);
        draws.meet(0, 1, 1, 1);
        draws.meet(1, 2, 1, 1);
        draws.meet(2, 0, 1, 1);
        check.due("draws make none", draws.bound(), 0);
        MeetingRanks again = Benches.withWins(3, 0, 1, 1, 2, 2, 0);
        check.due("asked once", again.bound(), 1);
        check.due("asked again", again.bound(), 1);
    }

    private void promise25and26Core() {
        MeetingRanks x = Benches.withWins(4, 1, 2, 2, 3, 3, 1, 1, 0, 2, 0);
        check.due("3 does not beat 0", x.core(), 15);
        x.meet(3, 0, 1, 0);
        check.due("1, 2, 3", x.core(), 14);
        check.due("no champion", x.champion(), NONE);
        x.meet(2, 1, 1, 0);
        check.due("one each beats none", x.core(), 14);
        x.meet(2, 1, 1, 0);
        check.due("2 beats all", x.core(), 4);
        check.due("2 beats all", x.champion(), 2);
        x.meet(0, 2, 1, 0);
        check.due("as often as it lost", x.champion(), NONE);
        check.due("as often as it lost", x.core(), 15);
        check.due("nobody met", Benches.withPlayers(10).core(), 1023);
        check.due("nobody met", Benches.withPlayers(10).champion(), NONE);
        check.due("ten in line", Benches.inLine(10).core(), 1);
        check.due("ten in line", Benches.inLine(10).champion(), 0);
        check.due("one alone", new MeetingRanks().core(), 1);
        check.due("one alone", new MeetingRanks().champion(), 0);
    }

    private void promise27Walks() {
        check.due("one alone", new MeetingRanks().walks(), 1);
        check.due("two that never met", Benches.withPlayers(2).walks(), 0);
        check.due("two", Benches.withWins(2, 1, 0).walks(), 1);
        check.due("as often", Benches.withWins(2, 1, 0, 0, 1).walks(), 0);
        check.due("a ring", Benches.withWins(3, 0, 1, 1, 2, 2, 0).walks(), 3);
        check.due("ten in line", Benches.inLine(10).walks(), 1);
        MeetingRanks turned = Benches.inLine(10);
        turned.meet(9, 0, 1, 0);
        turned.meet(9, 0, 1, 0);
        // All in line; or 9 over 0, with each cut of 1 .. 8 into those ahead of 9 and those behind 0.
        check.due("the last over the first", turned.walks(), 1 + 256);
        check.due("asked again", turned.walks(), 257);
    }

    private void promise28and29May() {
        MeetingRanks x = Benches.withWins(4, 1, 0, 2, 0);
        for (int none : new int[] {-1, 4, LOW, HIGH}) {
            check.due("may of none", x.may(none), NONE);
            check.due("why of none", x.why(none), NONE);
        }
        check.due("as many is enough", x.may(1), 1);
        check.due("as many is enough", x.why(2), 0);
        check.due("less", x.may(0), 0);
        check.due("the least bits", x.why(0), 2);
        x.next(0, 3);
        check.due("two more are enough", x.may(0), 1);
        x.next(1, 2);
        check.due("one of them passes it", x.may(0), 0);
        check.due("just both together say why", x.why(0), 6);
        x.next(0, 3);
        check.due("with one more of its own", x.may(0), 1);
        x.next(1, 2);
        check.due("4 each is enough", x.may(0), 1);
        x.next(1, 2);
        check.due("10 of two are too many", x.why(0), 6);
        x.rule(-10, 0, 10);
        check.due("whatever the rule", x.why(0), 6);
        x.undo(2);
        check.due("undone", x.may(0), 1);
        MeetingRanks draw = Benches.withPlayers(3);
        draw.meet(0, 1, 1, 1);
        check.due("a draw gives one", draw.why(2), 1);
        draw.next(2, 0);
        check.due("2 with 2", draw.may(2), 1);
        draw.next(0, 1);
        check.due("0 and 1 share", draw.may(2), 1);
        draw.next(0, 1);
        check.due("0 and 1 have too much", draw.why(2), 3);
        MeetingRanks ten = Benches.withPlayers(10);
        for (int i = 0; i < 40; i++) {
            ten.next(8, 9);
        }
        check.due("eighty for two", ten.why(0), 768);
        check.due("eighty for two", ten.may(8), 1);
    }

    private void promise30Undo() {
        MeetingRanks x = Benches.withPlayers(2);
        for (int n : new int[] {-1, 2, 40, 41, LOW, HIGH}) {
            check.due("undo of too many", x.undo(n), NONE);
        }
        dueAbout("refused", x, 2, 0, 0, 0, 1, 0, 0);
        for (int i = 0; i < 45; i++) {
            x.meet(0, 1, i, 0);
        }
        check.due("40 at most", x.about(4), 40);
        check.due("41", x.undo(41), NONE);
        check.due("none", x.undo(0), 0);
        check.due("10", x.undo(10), 10);
        dueAbout("30 left", x, 2, 35, 0, 0, 30, 0, 1);
        check.due("31", x.undo(31), NONE);
        check.due("30", x.undo(30), 30);
        dueAbout("none left", x, 2, 5, 0, 0, 0, 0, 1);
        check.due("the first of them stay", x.meeting(4, 2), 4);
        check.due("1", x.undo(1), NONE);
        undoOfEach();
        undoBehindTheRing();
    }

    private void undoOfEach() {
        MeetingRanks x = Benches.withWins(3, 0, 1);
        x.tie(3);
        x.feed(0x00010203, 0x02010000, 0, 0, 0);
        x.sheet(8);
        x.drop(0);
        x.next(0, 2);
        x.rule(5, 3, 1);
        x.ties();
        x.tie(4);
        x.player();
        x.feed(0, 0, 0, 0, 0);
        dueAbout("all done", x, 4, 2, 1, 1, 11, 20, 0);
        check.due("undo player", x.undo(1), 1);
        dueAbout("player", x, 3, 2, 1, 1, 10, 20, 1);
        check.due("undo tie", x.undo(1), 1);
        dueAbout("tie", x, 3, 2, 1, 0, 9, 20, 1);
        check.due("undo ties", x.undo(1), 1);
        dueAbout("ties", x, 3, 2, 1, 1, 8, 20, 1);
        check.due("undo rule", x.undo(1), 1);
        check.due("rule", x.score(1), 3);
        check.due("undo next", x.undo(1), 1);
        dueAbout("next", x, 3, 2, 0, 1, 6, 20, 1);
        check.due("undo drop", x.undo(1), 1);
        dueAbout("drop", x, 3, 3, 0, 1, 5, 20, 1);
        check.due("drop", x.meeting(0, 2), 1);
        check.due("drop", x.meeting(1, 2), 2);
        check.due("undo sheet", x.undo(1), 1);
        dueAbout("sheet, and the tape stays", x, 3, 1, 0, 1, 4, 20, 0);
        check.due("undo the rest", x.undo(4), 4);
        dueAbout("the rest", x, 1, 0, 0, 0, 0, 20, 1);
    }

    private void undoBehindTheRing() {
        MeetingRanks x = Benches.withPlayers(2);
        for (int round = 0; round < 5; round++) {
            for (int i = 0; i < 23; i++) {
                x.meet(0, 1, i, round);
            }
            check.due("undo", x.undo(7), 7);
        }
        dueAbout("five rounds", x, 2, 80, 0, 0, 33, 0, 1);
        check.due("undo", x.undo(33), 33);
        dueAbout("five rounds undone", x, 2, 47, 0, 0, 0, 0, 1);
        check.due("the last one left", x.meeting(46, 2), 14);
        check.due("the last one left", x.meeting(46, 3), 2);
    }

    private void promise31About() {
        MeetingRanks x = Benches.withPlayers(4);
        x.meet(0, 1, 1, 0);
        x.meet(3, 2, 0, 0);
        x.next(0, 1);
        x.next(0, 1);
        x.next(0, 2);
        x.tie(1);
        x.feed(1, 2, 3, 4, 5);
        dueAbout("all", x, 4, 2, 3, 1, 9, 20, 0);
        x.meet(2, 1, 0, 5);
        check.due("joined", x.about(6), 1);
        for (int what : new int[] {-1, 7, LOW, HIGH}) {
            check.due("about another", x.about(what), NONE);
        }
        MeetingRanks ten = Benches.withPlayers(10);
        for (int i = 9; i > 0; i--) {
            check.due("not joined yet", ten.about(6), 0);
            ten.meet(i, i - 1, 0, 0);
        }
        check.due("ten in a chain", ten.about(6), 1);
    }

    public static void main(String[] args) {
        PromisesTest t = new PromisesTest();
        t.promise01New();
        t.promise02Player();
        t.promise03Meet();
        t.promise04Feed();
        t.promise05Sheet();
        t.promise06Drop();
        t.promise07Next();
        t.promise08Rule();
        t.promise09Tie();
        t.promise10Ties();
        t.promise11Meeting();
        t.promise12Over();
        t.promise13Score();
        t.promise14Number();
        t.promise15Table();
        t.promise16Tied();
        t.promise17and18Heaps();
        t.promise19Gap();
        t.promise19LargeGaps();
        t.promise20Cost();
        t.promise21to23Rows();
        t.promise24Bound();
        t.promise25and26Core();
        t.promise27Walks();
        t.promise28and29May();
        t.promise30Undo();
        t.promise31About();
        t.check.end();
    }
}
