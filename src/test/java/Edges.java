import java.io.IOException;
import java.nio.charset.StandardCharsets;
import java.nio.file.Files;
import java.nio.file.Path;
import java.util.LinkedHashMap;
import java.util.Map;
import java.util.function.Supplier;
import java.util.function.ToLongFunction;

/**
 * Tests that each stand for some words of the document. The words must stand there, in the section that is told,
 * and in the end no word of a section may be left for which no test stands.
 */
final class Edges {
    private final Check check = new Check();
    private final Map<String, String> sections = new LinkedHashMap<>();
    private final Map<String, boolean[]> claimed = new LinkedHashMap<>();
    private String words = "";
    private int tests = 0;

    Edges(Path document) throws IOException {
        if (!Files.exists(document)) {
            System.out.println("without " + document + " nobody looks whether the words stand in it");
            return;
        }
        for (String part : Files.readString(document, StandardCharsets.UTF_8).split("(?m)^## ")) {
            int end = part.indexOf('\n');
            if (end > 0) {
                String title = part.substring(0, end).replaceAll(":.*", "").trim();
                sections.put(title, plain(part.substring(end)));
            }
        }
    }

    private static String plain(String text) {
        return text.replaceAll("```\\w*", " ").replaceAll("==== \\d\\.", " ").replaceAll("`[^`]*\\)`:", " ")
                .replace("`", "").replaceAll("\\s+", " ").trim();
    }

    void holds(String section, String said, Runnable test) {
        words = section + ", '" + said + "'";
        tests++;
        claim(section, said);
        int before = check.asked();
        test.run();
        check.isTrue(words + ": the test asks something", check.asked() > before);
    }

    private void claim(String section, String said) {
        if (sections.isEmpty()) {
            return;
        }
        String text = sections.getOrDefault(section, "");
        int at = text.indexOf(said);
        check.isTrue(words + " stands in the document", at >= 0);
        boolean[] marks = claimed.computeIfAbsent(section, s -> new boolean[text.length()]);
        while (at >= 0) {
            for (int i = at; i < at + said.length(); i++) {
                marks[i] = true;
            }
            at = text.indexOf(said, at + 1);
        }
    }

    void due(String call, long got, long want) {
        check.due(words + ": " + call, got, want);
    }

    void due(String call, boolean got, boolean want) {
        check.due(words + ": " + call, got, want);
    }

    void dueEach(String call, ToLongFunction<Integer> ask, int... want) {
        for (int i = 0; i < want.length; i++) {
            due(call + " of " + i, ask.applyAsLong(i), want[i]);
        }
    }

    void dueAbout(String when, MeetingRanks x, int... want) {
        dueEach(when + ": about", x::about, want);
    }

    void dueTable(String when, MeetingRanks x, int... want) {
        dueEach(when + ": table", x::table, want);
        due(when + ": table(n)", x.table(want.length), MeetingRanks.NONE);
    }

    void dueGap(MeetingRanks x, int player, long above, long below) {
        due("gap(" + player + ", 0)", x.gap(player, 0), above);
        due("gap(" + player + ", 1)", x.gap(player, 1), below);
    }

    void same(String what, MeetingRanks x, MeetingRanks y) {
        sameBut("nothing", what, x, y);
    }

    /** As same, but for the answers of one call. */
    void sameBut(String call, String what, MeetingRanks x, MeetingRanks y) {
        String[] got = Looks.at(x).split("\n");
        String[] want = Looks.at(y).split("\n");
        due(what + ": answers", got.length, want.length);
        for (int i = 0; i < got.length && got.length == want.length; i++) {
            boolean asDue = got[i].equals(want[i]) || got[i].startsWith(call);
            check.isTrue(words + ": " + what + ": " + got[i] + ", due is " + want[i], asDue);
        }
    }

    /** A call that does nothing: all answers, the TAPE and what undo brings back stay. */
    void nothing(String call, Supplier<MeetingRanks> make, ToLongFunction<MeetingRanks> ask, long want) {
        MeetingRanks x = make.get();
        due(call, ask.applyAsLong(x), want);
        same(call + ", which does nothing", x, make.get());
        int acts = make.get().about(4);
        for (int n = 1; n <= acts; n++) {
            MeetingRanks undone = make.get();
            ask.applyAsLong(undone);
            MeetingRanks other = make.get();
            due(call + ", then undo(" + n + ")", undone.undo(n), other.undo(n));
            same(call + ", then undo(" + n + ")", undone, other);
        }
        MeetingRanks read = make.get();
        ask.applyAsLong(read);
        MeetingRanks other = make.get();
        int bytes = other.about(5);
        due(call + ", then sheet(" + bytes + ")", read.sheet(bytes), other.sheet(bytes));
        same(call + ", then sheet(" + bytes + ")", read, other);
    }

    /** All of these sections' words must have their tests. */
    void end(String... whole) {
        for (String section : whole) {
            String text = sections.getOrDefault(section, "");
            boolean[] marks = claimed.getOrDefault(section, new boolean[text.length()]);
            StringBuilder left = new StringBuilder();
            for (int i = 0; i < text.length(); i++) {
                left.append(marks[i] || !Character.isLetterOrDigit(text.charAt(i)) ? ' ' : text.charAt(i));
            }
            String rest = left.toString().trim().replaceAll("\\s+", " ");
            check.isTrue(section + ": no test for '" + rest + "'", rest.isEmpty());
            check.isTrue(section + " stands in the document", sections.isEmpty() || !text.isEmpty());
        }
        System.out.println(tests + " tests");
        check.end();
    }
}
