import java.io.IOException;
import java.nio.file.Path;
import java.util.function.Consumer;
import java.util.function.Supplier;

/** The promises 1 to 10 and 30, of what changes the bench, sentence by sentence, at their edges. */
public final class EdgesOfActsTest {
    private static final int NONE = MeetingRanks.NONE;
    private static final int LOW = Benches.LOW;
    private static final int HIGH = Benches.HIGH;
    private static final int[][] NO_TWO = {{0, 0}, {3, 3}, {0, 4}, {4, 0}, {-1, 0}, {0, -1}, {0, 9}, {10, 0},
        {LOW, 1}, {1, LOW}, {HIGH, 1}, {1, HIGH}, {4, 5}, {256, 1}};

    private final Edges e;

    private EdgesOfActsTest(Edges e) {
        this.e = e;
    }

    private static long number(boolean answer) {
        return answer ? 1 : 0;
    }

    // ---- 1, 2: PLAYERS

    private void newObject() {
        MeetingRanks x = new MeetingRanks();
        e.dueAbout("new", x, 1, 0, 0, 0, 0, 0, 1);
        e.due("PLAYER 0 is there", x.score(0), 0);
        e.due("PLAYER 0 is there", x.heap(0), 0);
        e.due("PLAYER 1 is not", x.heap(1), NONE);
        e.due("no MEETINGS", x.meeting(0, 0), NONE);
        e.due("none to drop", x.drop(0), false);
        e.due("none can be with one PLAYER", x.meet(0, 1, 1, 0), NONE);
        e.due("none TO COME with one PLAYER", x.next(0, 1), NONE);
        MeetingRanks other = new MeetingRanks();
        x.player();
        e.due("another object has its own", other.about(0), 1);
    }

    private void onePlayerMore() {
        MeetingRanks x = new MeetingRanks();
        for (int number = 1; number <= 9; number++) {
            e.due("its number", x.player(), number);
            e.due("PLAYERS", x.about(0), number + 1);
            e.due("it can meet", x.meet(number, 0, 0, 1), number);
            e.due("it has a place", x.table(number) >= 0, true);
        }
    }

    private void noEleventhPlayer() {
        e.nothing("player()", () -> Benches.inLine(10), x -> x.player(), NONE);
        MeetingRanks x = Benches.withPlayers(10);
        x.player();
        e.due("once one is undone", x.undo(1), 1);
        e.due("once one is undone", x.player(), 9);
    }

    // ---- 3: meet

    private void howManyMeetings() {
        MeetingRanks x = Benches.withPlayers(10);
        for (int i = 1; i <= 120; i++) {
            e.due("meet", x.meet(i % 10, (i + 1 + i / 10 % 9) % 10, i % 100, 99 - i % 100), i);
        }
        e.due("MEETINGS", x.about(1), 120);
    }

    private void meetingsThatCannotBe() {
        for (int[] two : NO_TWO) {
            e.nothing("meet of " + two[0] + " and " + two[1], Benches::busy, x -> x.meet(two[0], two[1], 1, 0), NONE);
        }
        for (int wrong : new int[] {-1, 100, 127, 256, LOW, HIGH}) {
            e.nothing("meet with p " + wrong, Benches::busy, x -> x.meet(0, 1, wrong, 0), NONE);
            e.nothing("meet with q " + wrong, Benches::busy, x -> x.meet(0, 1, 0, wrong), NONE);
        }
    }

    private void no121stMeeting() {
        e.nothing("meet", () -> Benches.fullOfMeetings(3), x -> x.meet(0, 2, 1, 0), NONE);
        MeetingRanks x = Benches.fullOfMeetings(3);
        x.drop(60);
        e.due("once one is dropped", x.meet(0, 2, 1, 0), 120);
        e.due("and no more", x.meet(0, 2, 1, 0), NONE);
        x.undo(1);
        e.due("once one is undone", x.meet(1, 2, 1, 0), 120);
    }

    // ---- 4: feed

    private void bytesComeBehind() {
        MeetingRanks x = Benches.withPlayers(2);
        x.feed(Benches.four(0, 1, 1, 0), Benches.four(0, 1, 2, 0), Benches.four(0, 1, 3, 0), Benches.four(0, 1, 4, 0),
                Benches.four(0, 1, 5, 0));
        x.feed(Benches.four(0, 1, 6, 0), Benches.four(0, 1, 7, 0), Benches.four(0, 1, 8, 0), Benches.four(0, 1, 9, 0),
                Benches.four(0, 1, 10, 0));
        e.due("sheet", x.sheet(40), 10);
        e.dueEach("p", k -> x.meeting(k, 2), 1, 2, 3, 4, 5, 6, 7, 8, 9, 10);
    }

    private void highestByteFirst() {
        MeetingRanks x = Benches.withPlayers(10);
        x.feed(0x00010203, 0x04050607, 0x08096300, 0x09080063, 0x07060504);
        e.due("sheet", x.sheet(20), 5);
        int[][] want = {{0, 1, 2, 3}, {4, 5, 6, 7}, {8, 9, 99, 0}, {9, 8, 0, 99}, {7, 6, 5, 4}};
        for (int k = 0; k < 5; k++) {
            for (int what = 0; what < 4; what++) {
                e.due("meeting(" + k + ", " + what + ")", x.meeting(k, what), want[k][what]);
            }
        }
        for (int word : new int[] {-1, LOW, HIGH, 0x800100ff, 0x00010080, 0x000180ff, 0x00ff0000, 0xff000000}) {
            x.feed(word, 0x00010203, 0, 0, 0);
            e.due("bytes above 127 are no PLAYERS and no points", x.sheet(20), 0);
        }
    }

    private void howManyBytes() {
        MeetingRanks x = new MeetingRanks();
        for (int i = 1; i <= 24; i++) {
            e.due("feed", x.feed(i, LOW, HIGH, -1, 0), 20 * i);
            e.due("bytes", x.about(5), 20 * i);
        }
        e.due("no act", x.about(4), 0);
    }

    private void noMoreThan480Bytes() {
        e.nothing("feed", Benches::fullOfBytes, x -> x.feed(0, 0, 0, 0, 0), NONE);
        MeetingRanks x = Benches.fullOfBytes();
        x.feed(0, 0, 0, 0, 0);
        x.feed(-1, -1, -1, -1, -1);
        e.due("all 480 are as they were", x.sheet(480), 120);
        e.due("the first", x.meeting(0, 2), 1);
        e.due("the last", x.meeting(119, 3), 6);
        e.due("there is room again", x.feed(0, 0, 0, 0, 0), 20);
    }

    // ---- 5: sheet

    private void readOffTheFirstBytes() {
        for (int n = 0; n <= 20; n += 4) {
            MeetingRanks x = Benches.busy();
            e.due("sheet(" + n + ")", x.sheet(n), n / 4);
            e.due("MEETINGS", x.about(1), 4 + n / 4);
            e.due("the last one's p", x.meeting(3 + n / 4, 2), new int[] {9, 1, 2, 4, 99, 5}[n / 4]);
        }
        MeetingRanks full = Benches.fullOfBytes();
        e.due("sheet(480)", full.sheet(480), 120);
        e.due("the last one's a", full.meeting(119, 0), 0);
        e.due("the last one's p", full.meeting(119, 2), 5);
        MeetingRanks most = Benches.fullOfBytes();
        e.due("sheet(476)", most.sheet(476), 119);
        e.due("an empty TAPE has 0", new MeetingRanks().sheet(0), 0);
    }

    private void theTapeIsEmptyThen() {
        for (int n = 0; n <= 20; n++) {
            MeetingRanks x = Benches.busy();
            x.sheet(n);
            e.due("bytes after sheet(" + n + ")", x.about(5), 0);
            e.due("no byte is left", x.sheet(1), NONE);
            e.due("the next come first", x.feed(Benches.four(2, 3, 0, 8), 0, 0, 0, 0), 20);
            e.due("the next come first", x.sheet(4), 1);
            e.due("the next come first", x.meeting(x.about(1) - 1, 3), 8);
        }
        MeetingRanks none = new MeetingRanks();
        none.feed(0, 0, 0, 0, 0);
        e.due("where none came", none.sheet(20), 0);
        e.due("where none came", none.about(5), 0);
        MeetingRanks full = Benches.fullOfBytes();
        full.sheet(0);
        e.due("480 are away", full.about(5), 0);
        MeetingRanks undone = Benches.busy();
        undone.sheet(20);
        undone.undo(1);
        e.due("undo brings none back", undone.about(5), 0);
    }

    private void eachFour() {
        MeetingRanks x = Benches.withPlayers(4);
        x.feed(0x03020100, 0x00010203, 0, 0, 0);
        e.due("sheet", x.sheet(8), 2);
        e.dueEach("the first", what -> x.meeting(0, what), 3, 2, 1, 0);
        e.dueEach("the second", what -> x.meeting(1, what), 0, 1, 2, 3);
        e.due("1 to 0", x.over(3, 2), 1);
        e.due("2 to 3", x.over(1, 0), 1);
    }

    private void untilTheFirstThatCannotBe() {
        int[] wrong = {Benches.four(1, 1, 2, 0), Benches.four(2, 0, 1, 0), Benches.four(0, 2, 1, 0),
            Benches.four(0, 1, 100, 0), Benches.four(0, 1, 0, 100), Benches.four(0, 1, 255, 0),
            Benches.four(0, 1, 0, 255), 0, -1, LOW, HIGH};
        for (int word : wrong) {
            for (int place = 0; place < 5; place++) {
                MeetingRanks x = Benches.withPlayers(2);
                int[] w = new int[5];
                for (int i = 0; i < 5; i++) {
                    w[i] = i == place ? word : Benches.four(0, 1, i, 50);
                }
                x.feed(w[0], w[1], w[2], w[3], w[4]);
                e.due("those ahead of place " + place, x.sheet(20), place);
                e.due("and none behind it", x.about(1), place);
                e.due("the last that came", x.meeting(place - 1, 2), place - 1);
                e.due("acts", x.about(4), place > 0 ? 2 : 1);
            }
        }
    }

    private void untilThereAre120() {
        MeetingRanks x = Benches.withPlayers(2);
        Benches.feedFives(x, 24);
        e.due("118", x.sheet(472), 118);
        Benches.feedFives(x, 1);
        e.due("two have room", x.sheet(20), 2);
        e.due("120", x.about(1), 120);
        e.due("the last one", x.meeting(119, 2), 2);
        Benches.feedFives(x, 1);
        e.due("none has room", x.sheet(20), 0);
        e.due("which is no act", x.about(4), 3);
        e.due("the TAPE is empty", x.about(5), 0);
        x.undo(1);
        e.due("118 again", x.about(1), 118);
    }

    private void cutOff() {
        for (int n = 0; n <= 20; n++) {
            MeetingRanks x = Benches.busy();
            e.due("sheet(" + n + ")", x.sheet(n), n / 4);
            e.due("MEETINGS", x.about(1), 4 + n / 4);
        }
        MeetingRanks full = Benches.fullOfBytes();
        e.due("sheet(479)", full.sheet(479), 119);
    }

    private void oneActOrNone() {
        for (int n = 0; n <= 20; n++) {
            MeetingRanks x = Benches.busy();
            int came = x.sheet(n);
            e.due("sheet(" + n + ")", came, n / 4);
            e.due("acts", x.about(4), came > 0 ? 16 : 15);
            MeetingRanks before = Benches.busy();
            before.sheet(0);
            if (came > 0) {
                e.due("undone at once", x.undo(1), 1);
            }
            e.same("sheet(" + n + ") undone", x, before);
        }
        MeetingRanks full = Benches.fullOfMeetings(2);
        e.due("120 as one act", full.about(4), 2);
        full.undo(1);
        e.due("120 undone as one", full.about(1), 0);
    }

    private void theTapeHasNotSoMany() {
        for (int n : new int[] {-1, -4, 21, 24, 480, 481, LOW, HIGH}) {
            e.nothing("sheet(" + n + ")", Benches::busy, x -> x.sheet(n), NONE);
        }
        for (int n : new int[] {-1, 481, 484, LOW, HIGH}) {
            e.nothing("sheet(" + n + ")", Benches::fullOfBytes, x -> x.sheet(n), NONE);
        }
        for (int n : new int[] {-1, 1, 4, LOW, HIGH}) {
            e.nothing("sheet(" + n + ")", MeetingRanks::new, x -> x.sheet(n), NONE);
        }
    }

    // ---- 6: drop

    private void thoseBehindComeUp() {
        for (int k = 0; k < 4; k++) {
            MeetingRanks x = Benches.withPlayers(2);
            for (int i = 0; i < 4; i++) {
                x.meet(0, 1, 10 + i, i);
            }
            e.due("drop(" + k + ")", x.drop(k), true);
            e.due("MEETINGS", x.about(1), 3);
            for (int i = 0; i < 3; i++) {
                e.due("p of " + i + " after drop(" + k + ")", x.meeting(i, 2), i < k ? 10 + i : 11 + i);
                e.due("q of " + i + " after drop(" + k + ")", x.meeting(i, 3), i < k ? i : i + 1);
            }
            e.due("no fourth", x.meeting(3, 0), NONE);
            e.due("OVER", x.over(0, 1), 3);
            e.due("points", x.number(2, 0), 46 - 10 - k);
        }
        MeetingRanks full = Benches.fullOfMeetings(2);
        e.due("the last of 120", full.drop(119), true);
        e.due("the first of 119", full.drop(0), true);
        e.due("118 are left", full.about(1), 118);
        e.due("the last", full.meeting(117, 2), 99);
        e.due("the first", full.meeting(0, 2), 2);
        for (int i = 118; i > 0; i--) {
            e.due("drop", full.drop(i / 2), true);
        }
        e.due("all are dropped", full.about(1), 0);
        e.due("all are dropped", full.number(2, 1), 0);
    }

    private void noSuchMeetingToDrop() {
        for (int k : new int[] {-1, 4, 5, 119, 120, LOW, HIGH}) {
            e.nothing("drop(" + k + ")", Benches::busy, x -> number(x.drop(k)), 0);
        }
        e.nothing("drop(120)", () -> Benches.fullOfMeetings(2), x -> number(x.drop(120)), 0);
        e.nothing("drop(0)", MeetingRanks::new, x -> number(x.drop(0)), 0);
    }

    // ---- 7: next

    private void howManyToCome() {
        MeetingRanks x = Benches.withPlayers(10);
        for (int i = 1; i <= 40; i++) {
            e.due("next", x.next(i % 10, (i + 1 + i / 10) % 10), i);
        }
        e.due("TO COME", x.about(2), 40);
        e.due("no MEETINGS", x.about(1), 0);
    }

    private void comingThatCannotBe() {
        for (int[] two : NO_TWO) {
            e.nothing("next of " + two[0] + " and " + two[1], Benches::busy, x -> x.next(two[0], two[1]), NONE);
        }
    }

    private void no41stToCome() {
        e.nothing("next", Benches::fullOfComing, x -> x.next(0, 1), NONE);
        MeetingRanks x = Benches.fullOfComing();
        x.undo(1);
        e.due("once one is undone", x.next(0, 1), 40);
    }

    // ---- 8: rule

    private void ruleToItsEdges() {
        for (int worth : new int[] {-10, -9, 0, 9, 10}) {
            MeetingRanks x = Benches.withWins(3, 0, 1);
            x.meet(1, 2, 4, 4);
            e.due("won", x.rule(worth, 0, 0), true);
            e.dueEach("won", x::score, worth, 0, 0);
            e.due("drawn", x.rule(0, worth, 0), true);
            e.dueEach("drawn", x::score, 0, worth, worth);
            e.due("lost", x.rule(0, 0, worth), true);
            e.dueEach("lost", x::score, 0, worth, 0);
            e.due("all", x.rule(worth, worth, worth), true);
            e.dueEach("all", x::score, worth, 2 * worth, worth);
        }
    }

    private void ruleThatCannotBe() {
        for (int wrong : new int[] {-11, 11, 100, LOW, HIGH}) {
            e.nothing("won " + wrong, Benches::busy, x -> number(x.rule(wrong, 7, 7)), 0);
            e.nothing("drawn " + wrong, Benches::busy, x -> number(x.rule(7, wrong, 7)), 0);
            e.nothing("lost " + wrong, Benches::busy, x -> number(x.rule(7, 7, wrong)), 0);
            e.nothing("all " + wrong, Benches::busy, x -> number(x.rule(wrong, wrong, wrong)), 0);
        }
    }

    // ---- 9, 10: TIES

    private void howManyTies() {
        for (int kind = 0; kind <= 5; kind++) {
            MeetingRanks x = Benches.withPlayers(2);
            for (int i = 1; i <= 4; i++) {
                e.due("tie(" + kind + ")", x.tie(kind), i);
                e.due("TIES", x.about(3), i);
            }
        }
    }

    private void noFifthTie() {
        for (int kind = -1; kind <= 6; kind++) {
            int fifth = kind;
            e.nothing("tie(" + kind + ")", Benches::fullOfTies, x -> x.tie(fifth), NONE);
        }
        MeetingRanks x = Benches.fullOfTies();
        x.undo(1);
        e.due("once one is undone", x.tie(0), 4);
        x.ties();
        e.due("once there are none", x.tie(0), 1);
    }

    private void noSuchKind() {
        for (int kind : new int[] {-1, 6, 7, LOW, HIGH}) {
            e.nothing("tie(" + kind + ")", Benches::busy, x -> x.tie(kind), NONE);
        }
    }

    private void noTiesAreLeft() {
        for (int many = 0; many <= 4; many++) {
            MeetingRanks x = Benches.withPlayers(2);
            x.meet(0, 1, 5, 5);
            x.meet(0, 1, 3, 4);
            x.meet(1, 0, 3, 4);
            for (int i = 0; i < many; i++) {
                x.tie(i == 0 ? 1 : 2);
            }
            e.due("how many there were", x.ties(), many);
            e.due("none are left", x.about(3), 0);
            e.due("none were", x.ties(), 0);
            e.due("both are acts", x.about(4), 4 + many + 2);
            e.due("the first again", x.tie(2), 1);
        }
        MeetingRanks x = Benches.withPlayers(2);
        x.meet(0, 1, 9, 10);
        x.meet(0, 1, 10, 0);
        x.tie(1);
        e.due("leads tell", x.tied(0), false);
        x.ties();
        e.due("no more", x.tied(0), true);
    }

    // ---- 30: undo

    /** Forty acts of all kinds and more, each of which is done. */
    private static void act(MeetingRanks x, int i) {
        switch (i % 8) {
            case 0: x.player(); break;
            case 1: x.meet(0, 1, i, i / 2); break;
            case 2: Benches.feedFives(x, 1); x.sheet(8); break;
            case 3: x.drop(1); break;
            case 4: x.next(1, 0); break;
            case 5: x.rule(i % 11, 1, -(i % 7)); break;
            case 6: x.tie(i / 8 % 6); break;
            default:
                if (i / 8 % 2 == 1) {
                    x.ties();
                } else {
                    x.meet(i / 8 + 1, 0, 3, i);
                }
                break;
        }
    }

    private static MeetingRanks acted(int many) {
        MeetingRanks x = new MeetingRanks();
        for (int i = 0; i < many; i++) {
            act(x, i);
        }
        return x;
    }

    private void undoneFrom0To40() {
        for (int n = 0; n <= 40; n++) {
            MeetingRanks x = acted(40);
            e.due("undo(" + n + ") of 40", x.undo(n), n);
            e.same("undo(" + n + ") of 40", x, acted(40 - n));
            MeetingRanks y = acted(61);
            e.due("undo(" + n + ") of 61", y.undo(n), n);
            e.due("acts left", y.about(4), 40 - n);
            e.sameBut("about(4)", "undo(" + n + ") of 61", y, acted(61 - n));
        }
        MeetingRanks steps = acted(61);
        for (int n = 1; n <= 40; n++) {
            e.due("undo(1)", steps.undo(1), 1);
        }
        e.due("none is left", steps.undo(1), NONE);
        e.sameBut("about(4)", "one by one", steps, acted(21));
        MeetingRanks again = acted(61);
        again.undo(17);
        for (int i = 44; i < 61; i++) {
            act(again, i);
        }
        e.same("undone and done again", again, acted(61));
    }

    private void notSoManyActs() {
        for (int n : new int[] {-1, 16, 40, 41, LOW, HIGH}) {
            e.nothing("undo(" + n + ") of 15", Benches::busy, x -> x.undo(n), NONE);
        }
        for (int n : new int[] {-1, -40, 41, 42, LOW, HIGH}) {
            e.nothing("undo(" + n + ") of 42", Benches::fullOfComing, x -> x.undo(n), NONE);
        }
        e.nothing("undo(1) of none", MeetingRanks::new, x -> x.undo(1), NONE);
        e.nothing("undo(0)", Benches::busy, x -> x.undo(0), 0);
        e.nothing("undo(0) of none", MeetingRanks::new, x -> x.undo(0), 0);
        MeetingRanks x = acted(61);
        x.undo(30);
        e.due("10 are left", x.undo(11), NONE);
        e.due("10 are left", x.undo(10), 10);
    }

    private void undone(String act, Supplier<MeetingRanks> make, Consumer<MeetingRanks> done) {
        MeetingRanks x = make.get();
        int acts = x.about(4);
        done.accept(x);
        e.due(act + " is one act", x.about(4), acts + 1);
        e.due(act + ": undo(1)", x.undo(1), 1);
        e.same(act + " undone", x, make.get());
    }

    private void eachActIsUndone() {
        undone("player", Benches::busy, x -> x.player());
        undone("the tenth player", () -> Benches.withPlayers(9), x -> x.player());
        undone("meet", Benches::busy, x -> x.meet(3, 1, 0, 99));
        undone("the 120th meet", () -> dropped(119), x -> x.meet(0, 1, 1, 2));
        for (int k = 0; k < 4; k++) {
            int which = k;
            undone("drop(" + k + ")", Benches::busy, x -> x.drop(which));
        }
        undone("drop of 120", () -> Benches.fullOfMeetings(2), x -> x.drop(77));
        undone("next", Benches::busy, x -> x.next(0, 3));
        undone("rule", Benches::busy, x -> x.rule(-10, 10, -10));
        undone("the same rule", Benches::busy, x -> x.rule(3, 2, -1));
        undone("tie", Benches::busy, x -> x.tie(2));
        undone("the fourth tie", () -> tiedThrice(), x -> x.tie(2));
        undone("ties of two", Benches::busy, x -> x.ties());
        undone("ties of four", Benches::fullOfTies, x -> x.ties());
        undone("ties of none", () -> Benches.withPlayers(3), x -> x.ties());
        undone("sheet", () -> emptied(), x -> {
            Benches.feedFives(x, 24);
            x.sheet(480);
        });
    }

    /** Points alone tell 0, 1 and 2 apart, and KIND 2 stands at one of the places; the others tell nothing. */
    private void undoneTiesAreAtTheirPlaces() {
        for (int many = 1; many <= 4; many++) {
            for (int teller = 0; teller < many; teller++) {
                MeetingRanks x = Benches.withPlayers(3);
                x.meet(0, 1, 1, 1);
                x.meet(1, 2, 3, 3);
                x.meet(2, 0, 2, 2);
                for (int i = 0; i < many; i++) {
                    x.tie(i == teller ? 2 : 1);
                }
                x.ties();
                e.dueTable("without TIES", x, 0, 1, 2);
                e.due("undo", x.undo(1), 1);
                e.due("TIES", x.about(3), many);
                e.dueTable("the one at " + teller + " tells again", x, 2, 1, 0);
                e.due("undo of those behind it", x.undo(many - 1 - teller), many - 1 - teller);
                e.dueTable("it is still there", x, 2, 1, 0);
                e.due("undo of it", x.undo(1), 1);
                e.dueTable("and no more", x, 0, 1, 2);
            }
        }
    }

    private static MeetingRanks dropped(int k) {
        MeetingRanks x = Benches.fullOfMeetings(2);
        x.drop(k);
        return x;
    }

    private static MeetingRanks tiedThrice() {
        MeetingRanks x = Benches.fullOfTies();
        x.undo(1);
        return x;
    }

    private static MeetingRanks emptied() {
        MeetingRanks x = Benches.busy();
        x.sheet(0);
        return x;
    }

    private void ofPlayersAndMeetings() {
        e.holds("Promise 1", "One PLAYER, no MEETINGS.", this::newObject);
        e.holds("Promise 2", "A PLAYER more: its number;", this::onePlayerMore);
        e.holds("Promise 2", "NONE, doing nothing: there are 10.", this::noEleventhPlayer);
        e.holds("Promise 3", "A MEETING: how many there are;", this::howManyMeetings);
        e.holds("Promise 3", "NONE, doing nothing, if it can't be,", this::meetingsThatCannotBe);
        e.holds("Promise 3", "or there are 120.", this::no121stMeeting);
        e.holds("Promise 4", "Twenty bytes come behind those on the TAPE,", this::bytesComeBehind);
        e.holds("Promise 4", "the highest of each first:", this::highestByteFirst);
        e.holds("Promise 4", "how many there are;", this::howManyBytes);
        e.holds("Promise 4", "NONE, and nothing comes, if there would be more than 480.", this::noMoreThan480Bytes);
    }

    private void ofSheets() {
        e.holds("Promise 5", "MEETINGS are read off the first n bytes of the TAPE,", this::readOffTheFirstBytes);
        e.holds("Promise 5", "empty then:", this::theTapeIsEmptyThen);
        e.holds("Promise 5", "each four: a, b, p, q;", this::eachFour);
        e.holds("Promise 5", "each that can be comes, until the first that can't,", this::untilTheFirstThatCannotBe);
        e.holds("Promise 5", "until the first that can't,", this::untilThereAre120);
        e.holds("Promise 5", "or is cut off:", this::cutOff);
        e.holds("Promise 5", "how many came (one act; none if 0).", this::oneActOrNone);
        e.holds("Promise 5", "NONE, doing nothing: the TAPE has not n.", this::theTapeHasNotSoMany);
    }

    private void ofTheOthers() {
        e.holds("Promise 6", "MEETING k is there no more (those behind it come up): true;", this::thoseBehindComeUp);
        e.holds("Promise 6", "false if there is none such.", this::noSuchMeetingToDrop);
        e.holds("Promise 7", "A MEETING TO COME: how many there are;", this::howManyToCome);
        e.holds("Promise 7", "NONE, doing nothing, if it can't be,", this::comingThatCannotBe);
        e.holds("Promise 7", "or there are 40.", this::no41stToCome);
        e.holds("Promise 8", "The RULE: true;", this::ruleToItsEdges);
        e.holds("Promise 8", "false, doing nothing, if one can't be.", this::ruleThatCannotBe);
        e.holds("Promise 9", "One more of the TIES: how many there are;", this::howManyTies);
        e.holds("Promise 9", "NONE, doing nothing, if there are 4,", this::noFifthTie);
        e.holds("Promise 9", "or there is no such KIND.", this::noSuchKind);
        e.holds("Promise 10", "No TIES: how many there were.", this::noTiesAreLeft);
        e.holds("Promise 30", "The latest n acts (0 .. 40) are UNDONE: n;", this::undoneFrom0To40);
        e.holds("Promise 30", "are UNDONE", this::eachActIsUndone);
        e.holds("Promise 30", "are UNDONE", this::undoneTiesAreAtTheirPlaces);
        e.holds("Promise 30", "NONE, doing nothing, if there are not so many.", this::notSoManyActs);
    }

    public static void main(String[] args) throws IOException {
        Edges e = new Edges(Path.of(args.length > 1 ? args[1] : "../shared/DOC.md"));
        EdgesOfActsTest t = new EdgesOfActsTest(e);
        t.ofPlayersAndMeetings();
        t.ofSheets();
        t.ofTheOthers();
        e.end("Promise 1", "Promise 2", "Promise 3", "Promise 4", "Promise 5", "Promise 6", "Promise 7", "Promise 8",
                "Promise 9", "Promise 10", "Promise 30");
    }
}
