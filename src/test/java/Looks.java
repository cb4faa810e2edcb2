/** What can be seen of a bench. */
final class Looks {
    private Looks() {
    }

    /** The answers of all calls that ask, without an act: of ten PLAYERS some 300 calls. */
    static String at(MeetingRanks x) {
        StringBuilder text = new StringBuilder();
        for (int what = -1; what <= 7; what++) {
            say(text, "about(" + what + ")", x.about(what));
        }
        lookAtMeetings(text, x);
        for (int player = 0; player < x.about(0); player++) {
            lookAtPlayer(text, x, player);
        }
        say(text, "heaps()", x.heaps());
        say(text, "best()", x.best());
        say(text, "rows()", x.rows());
        say(text, "first()", x.first());
        say(text, "cost(first())", x.cost(x.first()));
        say(text, "bound()", x.bound());
        say(text, "core()", x.core());
        say(text, "champion()", x.champion());
        say(text, "walks()", x.walks());
        return text.toString();
    }

    private static void say(StringBuilder text, String call, long answer) {
        text.append(call).append(" = ").append(answer).append('\n');
    }

    private static void lookAtMeetings(StringBuilder text, MeetingRanks x) {
        int many = x.about(1);
        for (int k = -1; k <= many; k++) {
            // The sums tell of those in between.
            if (k < 3 || k > many - 3) {
                for (int what = 0; what < 4; what++) {
                    say(text, "meeting(" + k + ", " + what + ")", x.meeting(k, what));
                }
            }
        }
    }

    private static void lookAtPlayer(StringBuilder text, MeetingRanks x, int player) {
        for (int other = 0; other < x.about(0); other++) {
            say(text, "over(" + player + ", " + other + ")", x.over(player, other));
        }
        for (int kind = 0; kind < 6; kind++) {
            say(text, "number(" + kind + ", " + player + ")", x.number(kind, player));
        }
        say(text, "score(" + player + ")", x.score(player));
        say(text, "table(" + player + ")", x.table(player));
        say(text, "tied(" + player + ")", x.tied(player) ? 1 : 0);
        say(text, "heap(" + player + ")", x.heap(player));
        say(text, "gap(" + player + ", 0)", x.gap(player, 0));
        say(text, "gap(" + player + ", 1)", x.gap(player, 1));
        say(text, "may(" + player + ")", x.may(player));
        say(text, "why(" + player + ")", x.why(player));
    }
}
