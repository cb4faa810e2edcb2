/** Benches that tests begin with. */
final class Benches {
    static final int LOW = Integer.MIN_VALUE;
    static final int HIGH = Integer.MAX_VALUE;

    private Benches() {
    }

    static MeetingRanks withPlayers(int n) {
        MeetingRanks x = new MeetingRanks();
        for (int i = 1; i < n; i++) {
            x.player();
        }
        return x;
    }

    /** Each of these won by the first over the second, 1 to 0. */
    static MeetingRanks withWins(int n, int... pairs) {
        MeetingRanks x = withPlayers(n);
        for (int i = 0; i < pairs.length; i += 2) {
            x.meet(pairs[i], pairs[i + 1], 1, 0);
        }
        return x;
    }

    /** Each one won against all behind it. */
    static MeetingRanks inLine(int n) {
        MeetingRanks x = withPlayers(n);
        for (int a = 0; a < n; a++) {
            for (int b = a + 1; b < n; b++) {
                x.meet(a, b, 1, 0);
            }
        }
        return x;
    }

    /** Some of everything: 4 PLAYERS, 4 MEETINGS, 3 TO COME, 2 TIES, a RULE, 15 acts, 5 good fours on the TAPE. */
    static MeetingRanks busy() {
        MeetingRanks x = withPlayers(4);
        x.meet(0, 1, 3, 1);
        x.meet(1, 2, 2, 2);
        x.next(3, 0);
        x.meet(2, 0, 5, 4);
        x.tie(1);
        x.meet(3, 2, 0, 7);
        x.drop(1);
        x.rule(3, 2, -1);
        x.tie(5);
        x.meet(0, 3, 9, 9);
        x.next(1, 2);
        x.next(1, 2);
        feedFives(x, 1);
        return x;
    }

    /** As many MEETINGS of 0 and 1 as fit, all of a sheet: one act. */
    static MeetingRanks fullOfMeetings(int players) {
        MeetingRanks x = withPlayers(players);
        feedFives(x, 24);
        x.sheet(480);
        return x;
    }

    static MeetingRanks fullOfTies() {
        MeetingRanks x = withWins(3, 0, 1, 1, 2, 2, 0);
        for (int kind = 1; kind < 5; kind++) {
            x.tie(kind);
        }
        return x;
    }

    static MeetingRanks fullOfComing() {
        MeetingRanks x = withPlayers(3);
        for (int i = 0; i < 40; i++) {
            x.next(i % 2, 2);
        }
        return x;
    }

    static MeetingRanks fullOfBytes() {
        MeetingRanks x = withPlayers(2);
        feedFives(x, 24);
        return x;
    }

    /** Each feed has five MEETINGS of 0 and 1: 1 to 0, 2 to 3, 4 to 4, 99 to 0, 5 to 6. */
    static void feedFives(MeetingRanks x, int times) {
        for (int i = 0; i < times; i++) {
            x.feed(four(0, 1, 1, 0), four(0, 1, 2, 3), four(1, 0, 4, 4), four(1, 0, 99, 0), four(0, 1, 5, 6));
        }
    }

    static int four(int a, int b, int p, int q) {
        return a << 24 | b << 16 | p << 8 | q;
    }
}
