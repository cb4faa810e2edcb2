import java.lang.reflect.Method;
import java.util.ArrayList;
import java.util.Arrays;
import java.util.Collections;
import java.util.List;
import java.util.Random;

/** Long runs of calls by chance (always the same ones), each answer held against the model's. */
public final class ModelTest {
    private static final String[] NAMES = {"player", "meet", "feed", "sheet", "drop", "next", "rule", "tie", "ties",
        "meeting", "over", "score", "number", "table", "tied", "heaps", "heap", "gap", "cost", "best", "rows",
        "first", "bound", "core", "champion", "walks", "may", "why", "undo", "about"};
    private static final int[] PARTS = {0, 4, 5, 1, 1, 2, 3, 1, 0, 2, 2, 1, 2, 1, 1, 0, 1, 2, 1, 0, 0, 0, 0, 0, 0, 0,
        1, 1, 1, 1};
    private static final int[] WILD = {Integer.MIN_VALUE, Integer.MAX_VALUE, -2, -1, 0, 1, 2, 3, 4, 5, 6, 7, 8, 9, 10,
        11, 39, 40, 41, 99, 100, 119, 120, 121, 255, 256, 480, 481, 1 << 30, -(1 << 30)};

    private static final Method[] REAL = methodsOf(MeetingRanks.class);
    private static final Method[] MODEL = methodsOf(Model.class);

    /** What a run leans to. */
    private static final class Style {
        int mostPlayers;
        int pointRange;
        boolean growing;
        boolean tournament;
    }

    private final Random chance;
    private final Check check;
    private final MeetingRanks real = new MeetingRanks();
    private final Model model = new Model();
    private final Style style = new Style();
    private final List<String> calls = new ArrayList<>();

    private ModelTest(long seed, Check check) {
        this.chance = new Random(seed);
        this.check = check;
        style.mostPlayers = 1 + chance.nextInt(10);
        style.pointRange = new int[] {1, 2, 3, 100}[chance.nextInt(4)];
        style.growing = chance.nextInt(3) > 0;
        style.tournament = chance.nextInt(4) == 0;
    }

    private static Method[] methodsOf(Class<?> c) {
        Method[] found = new Method[NAMES.length];
        for (Method m : c.getDeclaredMethods()) {
            int op = Arrays.asList(NAMES).indexOf(m.getName());
            if (op >= 0 && m.getParameterCount() == PARTS[op]) {
                found[op] = m;
            }
        }
        return found;
    }

    private static long ask(Object x, Method method, long[] v) {
        Object[] given = new Object[v.length];
        for (int i = 0; i < v.length; i++) {
            boolean isLong = method.getParameterTypes()[i] == long.class;
            given[i] = isLong ? (Object) Long.valueOf(v[i]) : (Object) Integer.valueOf((int) v[i]);
        }
        try {
            Object got = method.invoke(x, given);
            return got instanceof Boolean ? ((Boolean) got ? 1 : 0) : ((Number) got).longValue();
        } catch (ReflectiveOperationException e) {
            throw new IllegalStateException(method + Arrays.toString(v) + " failed", e);
        }
    }

    private int someone() {
        return chance.nextInt(model.players());
    }

    private int upTo(int most) {
        return chance.nextInt(most + 1);
    }

    private long someRow() {
        List<Integer> list = new ArrayList<>();
        for (int i = 0; i < model.players(); i++) {
            list.add(i);
        }
        Collections.shuffle(list, chance);
        long row = 0;
        for (int x : list) {
            row = row * 10 + x;
        }
        return row;
    }

    private int someWord() {
        int p = upTo(style.pointRange);
        int q = upTo(style.pointRange);
        return someone() << 24 | someone() << 16 | p << 8 | q;
    }

    /** Parts that mostly can be. */
    private long[] fitting(int op) {
        switch (op) {
            case 1: return new long[] {someone(), someone(), upTo(style.pointRange), upTo(style.pointRange)};
            case 2: return new long[] {someWord(), someWord(), someWord(), someWord(),
                chance.nextBoolean() ? someWord() : chance.nextInt()};
            case 3: return new long[] {upTo(20)};
            case 4: return new long[] {upTo(Math.max(1, model.about(1)))};
            case 5: return new long[] {someone(), someone()};
            case 6: return new long[] {upTo(20) - 10, upTo(20) - 10, upTo(20) - 10};
            case 7: return new long[] {chance.nextInt(6)};
            case 9: return new long[] {upTo(Math.max(1, model.about(1))), chance.nextInt(4)};
            case 10: return new long[] {someone(), someone()};
            case 12: return new long[] {chance.nextInt(6), someone()};
            case 17: return new long[] {someone(), chance.nextInt(2)};
            case 18: return new long[] {someRow()};
            case 28: return new long[] {style.growing ? upTo(2) : upTo(12)};
            case 29: return new long[] {chance.nextInt(7)};
            default: return PARTS[op] == 1 ? new long[] {someone()} : new long[0];
        }
    }

    private long[] parts(int op) {
        long[] v = fitting(op);
        if (v.length > 0 && chance.nextInt(12) == 0) {
            v[chance.nextInt(v.length)] = WILD[chance.nextInt(WILD.length)];
        }
        return v;
    }

    private void call(int op, long... v) {
        String said = NAMES[op] + Arrays.toString(v);
        calls.add(said);
        check.due(said, ask(real, REAL[op], v), ask(model, MODEL[op], v));
        if (check.foundWrong()) {
            System.out.println("the run was: " + calls);
            check.end();
        }
    }

    private boolean isDear(int op) {
        return op >= 19 && op <= 21 && model.players() > 7;
    }

    private int someOp() {
        int lean = chance.nextInt(10);
        if (style.growing && lean < 4) {
            return lean < 3 ? 1 : 5;
        }
        int op = chance.nextInt(NAMES.length);
        boolean tooMany = op == 0 && model.players() >= style.mostPlayers && chance.nextInt(10) > 0;
        return isDear(op) || tooMany ? 13 : op;
    }

    private void playAll() {
        for (int a = 0; a < model.players(); a++) {
            for (int b = a + 1; b < model.players(); b++) {
                int won = chance.nextInt(2);
                call(1, a, b, won, 1 - won);
            }
        }
    }

    private void askEverything() {
        for (int op = 8; op < 28; op++) {
            for (int k = -1; k <= model.players(); k++) {
                if (op == 12) {
                    for (int kind = -1; kind <= 6; kind++) {
                        call(op, kind, k);
                    }
                } else if (op == 9 || op == 17) {
                    for (int what = -1; what <= 4; what++) {
                        call(op, k, what);
                    }
                } else if (PARTS[op] == 1) {
                    call(op, op == 18 ? someRow() : k);
                } else if (op == 10) {
                    call(op, k, someone());
                }
            }
            if (PARTS[op] == 0 && op != 8 && !isDear(op)) {
                call(op);
            }
        }
        for (int what = -1; what <= 7; what++) {
            call(29, what);
        }
    }

    private void run(int length, boolean dearToo) {
        if (chance.nextInt(3) > 0) {
            for (int i = 1; i < style.mostPlayers; i++) {
                call(0);
            }
        }
        if (style.tournament) {
            playAll();
        }
        while (calls.size() < length) {
            int op = someOp();
            call(op, parts(op));
        }
        askEverything();
        if (dearToo) {
            call(19);
            call(20);
            call(21);
        }
    }

    public static void main(String[] args) {
        Check check = new Check();
        for (int seed = 0; seed < 1500; seed++) {
            new ModelTest(seed, check).run(60 + seed % 340, seed % 50 == 0);
        }
        check.end();
    }
}
