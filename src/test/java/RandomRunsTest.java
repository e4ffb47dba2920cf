import java.util.ArrayList;
import java.util.List;
import java.util.Random;

/** Drawn runs of calls, asked of the class and of the model beside it. */
public final class RandomRunsTest {
    private static final int RUNS = 6000;
    private static final int CALLS = 512;

    private final Random random;
    private final TypedBlocks x = new TypedBlocks();
    private final Model m = new Model();
    private final List<String> calls = new ArrayList<>();
    private int left = CALLS;
    private boolean wrong;
    private static long sureRuns;
    private static long laidTexts;
    private static long mendedBlocks;

    private RandomRunsTest(long seed) {
        random = new Random(seed);
    }

    public static void main(String[] args) {
        int wrongRuns = 0;
        for (int seed = 0; seed < RUNS && wrongRuns < 5; seed++) {
            RandomRunsTest run = new RandomRunsTest(seed);
            run.all();
            if (run.wrong) {
                wrongRuns++;
                System.out.println("run " + seed + ": " + String.join("; ", run.calls));
            }
        }
        System.out.println(RUNS + " runs, " + laidTexts + " texts laid, " + sureRuns + " runs of sure programs, "
            + mendedBlocks + " blocks that can be mended");
        if (wrongRuns > 0 || sureRuns < 100 || laidTexts < 1000 || mendedBlocks < 1000) {
            System.exit(1);
        }
    }

    private void all() {
        while (left > 0 && !wrong) {
            int kind = random.nextInt(12);
            if (kind == 0 && left > 250) {
                tell();
            } else {
                one();
            }
        }
    }

    private void same(String call, int got, int want) {
        left--;
        calls.add(call + " = " + got);
        if (got != want) {
            wrong = true;
            calls.add("due is " + want);
        }
    }

    private int in(int from, int to) {
        return from + random.nextInt(to - from + 1);
    }

    /** Mostly a number that may be, now and then one that may not. */
    private int near(int from, int to) {
        int kind = random.nextInt(40);
        if (kind == 0) {
            return from - 1;
        }
        if (kind == 1) {
            return to + 1;
        }
        if (kind == 2) {
            return random.nextBoolean() ? random.nextInt() : random.nextBoolean() ? Integer.MIN_VALUE : Integer.MAX_VALUE;
        }
        return in(from, to);
    }

    private int labels() {
        return m.count(1) - 1;
    }

    private int type(int sorts, int labels) {
        int kind = random.nextInt(8);
        if (kind < 2) {
            return 0;
        }
        if (kind < 5) {
            return 1;
        }
        if (kind == 5 && labels > 0) {
            return 6 + in(0, labels - 1);
        }
        return sorts > 0 ? 2 + in(0, sorts - 1) : 1;
    }

    private void tell() {
        int labels = in(1, 4);
        StringBuilder t = new StringBuilder();
        int sorts = in(0, 3);
        for (int i = 0; i < sorts; i++) {
            t.append('s');
            for (int f = in(1, 3); f > 0; f--) {
                t.append(in(0, Math.min(i, 3)));
            }
            t.append(';');
        }
        for (int l = 0; l < labels; l++) {
            t.append('l');
            for (int r = 0; r < 4; r++) {
                t.append(type(sorts, labels));
            }
            t.append(',');
            for (int s = random.nextBoolean() ? 0 : in(0, 3); s > 0; s--) {
                t.append(type(sorts, labels));
            }
            t.append(',').append(in(0, 1)).append(';');
            int most = in(0, Math.min(6, 24 / labels));
            for (int k = 0; k < most; k++) {
                int[] i = code(sorts - 1, labels - 1, k == most - 1);
                t.append('i').append(i[0]).append(',').append(i[1]).append(',').append(i[2]).append(',').append(i[3])
                    .append(';');
            }
        }
        if (random.nextInt(4) == 0) {
            spoil(t);
        }
        same("wipe()", x.wipe(), m.wipe());
        for (int i = 0; i < t.length() && i < 203; i++) {
            same("write(" + (int) t.charAt(i) + ")", x.write(t.charAt(i)), m.write(t.charAt(i)));
        }
        same("fault()", x.fault(), m.fault());
        int laid = m.lay();
        same("lay()", x.lay(), laid);
        laidTexts += laid > 0 ? 1 : 0;
    }

    private void spoil(StringBuilder t) {
        int at = random.nextInt(t.length());
        String letters = "0123456789,;sli x";
        char drawn = letters.charAt(random.nextInt(letters.length()));
        switch (random.nextInt(3)) {
            case 0 -> t.setCharAt(at, drawn);
            case 1 -> t.deleteCharAt(at);
            default -> t.insert(at, drawn);
        }
    }

    private int[] code(int sort, int label, boolean last) {
        int c = last && random.nextInt(5) > 0 ? new int[] {9, 11, 12, 13, 13}[random.nextInt(5)] : near(0, 13);
        int[] i = {c, 0, 0, 0};
        for (int p = 0; p < 3; p++) {
            char asked = c < 0 || c > 13 ? 'r' : Model.ASKS[c].charAt(p);
            i[p + 1] = switch (asked) {
                case 'r' -> near(0, 3);
                case 'w' -> near(0, 99);
                case 't' -> near(0, Math.max(0, sort));
                case 'f' -> near(0, 2);
                case 'l' -> near(0, label);
                default -> random.nextInt(60) == 0 ? 1 : 0;
            };
        }
        return i;
    }

    private void one() {
        int l = near(0, labels());
        int k = near(0, Math.max(0, m.label(l, 9) - 1));
        switch (random.nextInt(26)) {
            case 0 -> {
                int letter = near(32, 126);
                same("write(" + letter + ")", x.write(letter), m.write(letter));
            }
            case 1 -> {
                if (random.nextInt(10) == 0) {
                    same("wipe()", x.wipe(), m.wipe());
                }
            }
            case 2 -> same("fault()", x.fault(), m.fault());
            case 3 -> {
                if (random.nextInt(10) == 0) {
                    same("lay()", x.lay(), m.lay());
                }
            }
            case 4 -> {
                int t = near(0, 3);
                int f = near(-1, 2);
                same("sort(" + t + ", " + f + ")", x.sort(t, f), m.sort(t, f));
            }
            case 5 -> {
                int what = near(0, 9);
                same("label(" + l + ", " + what + ")", x.label(l, what), m.label(l, what));
            }
            case 6 -> {
                int what = near(0, 3);
                same("code(" + l + ", " + k + ", " + what + ")", x.code(l, k, what), m.code(l, k, what));
            }
            case 7, 8, 9, 10, 11, 12 -> act(l, k);
            default -> ask(l, k);
        }
    }

    private void act(int l, int k) {
        int[] i = code(m.count(0) - 1, labels(), random.nextInt(3) == 0);
        String told = i[0] + ", " + i[1] + ", " + i[2] + ", " + i[3] + ")";
        switch (random.nextInt(9)) {
            case 0, 1 -> same("put(" + l + ", " + k + ", " + told, x.put(l, k, i[0], i[1], i[2], i[3]),
                m.put(l, k, i[0], i[1], i[2], i[3]));
            case 2, 3 -> {
                int at = near(0, Math.max(0, m.label(l, 9)));
                same("add(" + l + ", " + at + ", " + told, x.add(l, at, i[0], i[1], i[2], i[3]),
                    m.add(l, at, i[0], i[1], i[2], i[3]));
            }
            case 4 -> same("cut(" + l + ", " + k + ")", x.cut(l, k), m.cut(l, k));
            case 5 -> {
                int r = near(0, 3);
                int t = near(0, 9);
                same("want(" + l + ", " + r + ", " + t + ")", x.want(l, r, t), m.want(l, r, t));
            }
            case 6 -> {
                int any = near(0, 1);
                same("below(" + l + ", " + any + ")", x.below(l, any), m.below(l, any));
            }
            case 7 -> same("undo()", x.undo(), m.undo());
            default -> {
                if (random.nextBoolean()) {
                    same("keep()", x.keep(), m.keep());
                } else {
                    same("back()", x.back(), m.back());
                }
            }
        }
    }

    private void ask(int l, int k) {
        switch (random.nextInt(11)) {
            case 0 -> same("check(" + l + ")", x.check(l), m.check(l));
            case 1 -> same("reason(" + l + ")", x.reason(l), m.reason(l));
            case 2 -> {
                int at = near(0, Math.max(0, m.label(l, 9)));
                int what = near(0, 10);
                same("ahead(" + l + ", " + at + ", " + what + ")", x.ahead(l, at, what), m.ahead(l, at, what));
            }
            case 3 -> same("sure()", x.sure(), m.sure());
            case 4 -> same("joins(" + l + ")", x.joins(l), m.joins(l));
            case 5 -> {
                int r = near(0, 3);
                same("might(" + l + ", " + r + ")", x.might(l, r), m.might(l, r));
            }
            case 6 -> same("reached()", x.reached(), m.reached());
            case 7 -> {
                int what = near(0, 1);
                int due = m.mends(l, what);
                mendedBlocks += due > 0 ? 1 : 0;
                same("mends(" + l + ", " + what + ")", x.mends(l, what), due);
            }
            case 8 -> runs();
            case 9 -> {
                int z = near(0, 9999);
                int n = near(1, 20);
                int what = near(0, 1);
                same("day(" + z + ", " + n + ", " + what + ")", x.day(z, n, what), m.day(z, n, what));
            }
            default -> {
                int what = near(0, 6);
                same("count(" + what + ")", x.count(what), m.count(what));
            }
        }
    }

    private void runs() {
        int w = near(0, 99);
        int n = random.nextBoolean() ? near(0, 12) : near(0, 200);
        int what = near(0, 4);
        same("run(" + w + ", " + n + ", " + what + ")", x.run(w, n, what), m.run(w, n, what));
        if (m.count(3) == m.count(1) && w >= 0 && w <= 99) {
            sureRuns++;
            int how = x.run(w, 200, 0);
            calls.add("run(" + w + ", 200, 0) = " + how);
            left--;
            // Checked code is never stuck: that is what the checks are for.
            wrong |= how == 2;
        }
    }
}
