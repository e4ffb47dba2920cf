import java.math.BigInteger;
import java.util.Arrays;

/** A DAY and KEPT of part 4, promises 24 to 27, and 512 calls: a test for each sentence that names a bound. */
public final class DayBoundsTest {
    private static final int BAD = TypedBlocks.BAD, NO = TypedBlocks.NO, FULL = TypedBlocks.FULL,
        NONE = TypedBlocks.NONE;
    private static final int MIN = Integer.MIN_VALUE, MAX = Integer.MAX_VALUE;
    private static final String HALT = "i13,0,0,0;", BLOCK = "l1000,,1;", SET = "i1,0,4,0;";
    private static final int[] DRAWN = {0, 1, 2, 6, 7};
    private static final Due DUE = new Due();
    private static final Twins TWINS = new Twins(DUE);

    public static void main(String[] args) {
        numbersOfDay();
        firstDraw();
        eachDraw();
        manyDraws();
        ifItHasInstructions();
        behindHowManyAll();
        dayChangesNothing();
        twoKept();
        asKeptLast();
        backOfNone();
        nothingUndoneThen();
        keptIsAll();
        howMany();
        howManyAtMost();
        whatOfCount();
        fiveHundredAndTwelveCalls();
        DUE.finish();
    }

    private static int draw(int z, int k) {
        BigInteger x = BigInteger.valueOf(7919).multiply(BigInteger.valueOf(z))
            .add(BigInteger.valueOf(6151).multiply(BigInteger.valueOf(k))).add(BigInteger.ONE);
        return x.multiply(x).mod(BigInteger.valueOf(65521)).intValue();
    }

    /** One draw, done as an act. */
    private static void change(TypedBlocks x, int draw) {
        int l = draw % x.count(1);
        int many = x.label(l, 9);
        if (many > 0) {
            int c = DRAWN[draw / 64 % 5];
            int y = c == 1 ? 1 : c == 0 || c == 2 ? draw / 2048 % 4 : 0;
            x.put(l, draw / 8 % many, c, draw / 512 % 4, y, 0);
        }
    }

    private static void numbersOfDay() {
        DUE.part("24: A DAY by z (0 to 9999) of n (1 to 20): SURE (what = 0), how often all (1). BAD");
        TypedBlocks x = new TypedBlocks();
        for (int z : new int[] {MIN, -1, 0, 1, 9998, 9999, 10000, MAX}) {
            boolean is = z >= 0 && z <= 9999;
            DUE.holds("day(" + z + ", 1, 0)", is == x.day(z, 1, 0) >= 0);
            DUE.holds("day(" + z + ", 20, 1)", is == x.day(z, 20, 1) >= 0);
            DUE.due("BAD of day(" + z + ", 1, 0)", Math.min(0, x.day(z, 1, 0)), is ? 0 : BAD);
        }
        for (int n : new int[] {MIN, -1, 0, 1, 2, 19, 20, 21, MAX}) {
            DUE.due("BAD of day(0, " + n + ", 0)", Math.min(0, x.day(0, n, 0)), n >= 1 && n <= 20 ? 0 : BAD);
        }
        for (int what : new int[] {MIN, -1, 0, 1, 2, MAX}) {
            DUE.due("BAD of day(0, 1, " + what + ")", Math.min(0, x.day(0, 1, what)), what == 0 || what == 1 ? 0 : BAD);
        }
    }

    private static void firstDraw() {
        DUE.part("24: the k-th time (0 first); x 7919 z, 6151 k and 1 together");
        // z 0, k 0: DRAW is 1: of two labels the second, its first instruction, MOVE 0, 0.
        DUE.due("day(0, 1, 0) of the first program", new TypedBlocks().day(0, 1, 0), 2);
        DUE.due("day(0, 1, 1) of the first program", new TypedBlocks().day(0, 1, 1), 0);
        TypedBlocks x = Due.laid(BLOCK + HALT + "l0000,,1;i12,0,0,0;i1,0,0,0;" + HALT);
        DUE.due("sure()", x.sure(), 1);
        DUE.due("day(0, 1, 0): MOVE 0, 0 mends it", x.day(0, 1, 0), 2);
        DUE.due("day(0, 1, 1): MOVE 0, 0 mends it", x.day(0, 1, 1), 1);
        // z 0, k 1: x is 6152, DRAW 6152 times 6152 modulo 65521.
        DUE.due("the second draw", draw(0, 1), 6152L * 6152 % 65521);
        DUE.due("the last draw", draw(9999, 19), (7919L * 9999 + 6151 * 19 + 1) % 65521
            * ((7919L * 9999 + 6151 * 19 + 1) % 65521) % 65521);
    }

    /** Each z with n = 1, against the same draw done as an act. */
    private static void eachDraw() {
        DUE.part("24: at LABEL DRAW modulo as many .. (DRAW by 8, 64, 512, 2048, cut): for each z");
        String[] texts = {"l1111,111,1;i6,0,0,0;i7,1,0,0;i1,2,0,0;i2,0,1,0;" + HALT
            + "l1010,6,1;i7,1,0,0;i0,0,2,0;i6,0,0,0;" + HALT + "l0101,,1;i2,1,3,0;i0,0,1,0;" + HALT,
            "l1106,1,0;i0,1,0,0;i0,2,3,0;i12,2,0,0;l1100,1,1;i7,2,0,0;i2,0,2,0;" + HALT};
        for (String text : texts) {
            int labels = Due.laid(text).count(1);
            int[] seen = new int[4];
            TypedBlocks x = null;
            TypedBlocks y = null;
            for (int z = 0; z <= 9999; z++) {
                if (z % 60 == 0) {
                    x = Due.laid(text);
                    y = Due.laid(text);
                }
                change(y, draw(z, 0));
                int sure = y.count(3);
                seen[sure]++;
                DUE.due("day(" + z + ", 1, 0) of " + text, x.day(z, 1, 0), sure);
                DUE.due("day(" + z + ", 1, 1) of " + text, x.day(z, 1, 1), sure == y.count(1) ? 1 : 0);
                y.undo();
            }
            DUE.holds("all are sure often, and often one is not", seen[labels] > 100 && seen[labels - 1] > 100);
        }
    }

    private static void manyDraws() {
        DUE.part("24: of n (1 to 20) from now on: how many blocks are SURE then; behind how many all were SURE");
        String text = "l1111,111,1;i6,0,0,0;i6,1,0,0;i1,2,0,0;i2,0,1,0;i6,3,0,0;" + HALT
            + "l1111,111,1;i6,0,0,0;i6,1,0,0;i1,2,0,0;i2,0,1,0;i6,3,0,0;" + HALT;
        int most = 0;
        for (int z : new int[] {0, 1, 2, 3, 4, 5, 17, 99, 1234, 5000, 7919, 9998, 9999}) {
            TypedBlocks x = Due.laid(text);
            TypedBlocks y = Due.laid(text);
            int all = 0;
            for (int n = 1; n <= 20; n++) {
                change(y, draw(z, n - 1));
                all += y.sure() == 3 ? 1 : 0;
                DUE.due("day(" + z + ", " + n + ", 0)", x.day(z, n, 0), y.count(3));
                DUE.due("day(" + z + ", " + n + ", 1)", x.day(z, n, 1), all);
            }
            most = Math.max(most, all);
        }
        DUE.holds("some are sure more than twice", most > 2);
    }

    private static void ifItHasInstructions() {
        DUE.part("24: if it has INSTRUCTIONS");
        TypedBlocks none = Due.laid(BLOCK.repeat(4));
        for (int z = 0; z < 100; z++) {
            DUE.due("day(" + z + ", 20, 0) of no instructions", none.day(z, 20, 0), 0);
            DUE.due("day(" + z + ", 20, 1) of no instructions", none.day(z, 20, 1), 0);
        }
        // Where the draw meets the empty block, the other one stays sure.
        TypedBlocks x = Due.laid(BLOCK + HALT + BLOCK);
        for (int z = 0; z < 100; z++) {
            DUE.due("day(" + z + ", 1, 0)", x.day(z, 1, 0), draw(z, 0) % 2 == 1 ? 1 : 0);
        }
    }

    private static void behindHowManyAll() {
        DUE.part("24: behind how many of these n all were SURE (0 to n)");
        // The last of six is an end: as long as no draw meets it, and no POP too many comes, all is sure.
        TypedBlocks x = Due.laid("l1111,111,1;" + "i1,0,0,0;".repeat(5) + HALT);
        boolean all = false;
        boolean none = false;
        for (int z = 0; z < 200; z++) {
            TypedBlocks y = Due.laid("l1111,111,1;" + "i1,0,0,0;".repeat(5) + HALT);
            int sure = 0;
            for (int k = 0; k < 5; k++) {
                change(y, draw(z, k));
                sure += y.sure();
            }
            DUE.due("day(" + z + ", 5, 1)", x.day(z, 5, 1), sure);
            all |= sure == 5;
            none |= sure == 0;
        }
        DUE.holds("some days all, some never", all && none);
    }

    private static void dayChangesNothing() {
        DUE.part("24: A DAY (told, not done); BAD: nothing changes then");
        TWINS.same("day(0, 1, 0)", TypedBlocks::new, x -> x.day(0, 1, 0), 2);
        TWINS.same("day(5, 20, 0)", TypedBlocks::new, x -> x.day(5, 20, 0), 0);
        TWINS.same("day(5, 20, 1)", Twins::busy, x -> x.day(5, 20, 1), 0);
        int[][] wrong = {{-1, 1, 0}, {10000, 1, 0}, {0, 0, 0}, {0, 21, 0}, {0, 1, -1}, {0, 1, 2}, {MIN, MAX, MAX}};
        for (int[] w : wrong) {
            TWINS.sameAnywhere("day" + Arrays.toString(w), x -> x.day(w[0], w[1], w[2]), BAD);
        }
    }

    private static void twoKept() {
        DUE.part("KEPT: 2 at most; 25: how many. FULL");
        TypedBlocks x = new TypedBlocks();
        DUE.due("keep()", x.keep(), 1);
        DUE.due("keep()", x.keep(), 2);
        DUE.due("keep()", x.keep(), FULL);
        DUE.due("count(5)", x.count(5), 2);
        DUE.due("back()", x.back(), 1);
        DUE.due("keep()", x.keep(), 2);
        DUE.due("keep()", x.keep(), FULL);
        TWINS.same("keep() of a third", Twins::busy, TypedBlocks::keep, FULL);
        TWINS.same("keep() of a third, alike", DayBoundsTest::twice, TypedBlocks::keep, FULL);
    }

    private static TypedBlocks twice() {
        TypedBlocks x = new TypedBlocks();
        x.keep();
        x.keep();
        x.cut(0, 0);
        return x;
    }

    /** Many rounds, so that places are used again: the last that was kept comes back. */
    private static void asKeptLast() {
        DUE.part("26: As KEPT last: how many are left");
        TypedBlocks x = Due.laid(BLOCK + "i1,0,0,0;");
        for (int round = 1; round <= 20; round++) {
            x.put(0, 0, 1, 1, round, 0);
            DUE.due("keep()", x.keep(), 1);
            x.put(0, 0, 1, 2, round, 0);
            DUE.due("keep()", x.keep(), 2);
            x.put(0, 0, 1, 3, round, 0);
            DUE.due("back()", x.back(), 1);
            DUE.due("code(0, 0, 1)", x.code(0, 0, 1), 2);
            DUE.due("code(0, 0, 2)", x.code(0, 0, 2), round);
            if (round % 2 == 0) {
                x.put(0, 0, 1, 0, round, 0);
                DUE.due("keep()", x.keep(), 2);
                x.cut(0, 0);
                DUE.due("back()", x.back(), 1);
                DUE.due("code(0, 0, 1)", x.code(0, 0, 1), 0);
            }
            DUE.due("back()", x.back(), 0);
            DUE.due("code(0, 0, 1)", x.code(0, 0, 1), 1);
            DUE.due("code(0, 0, 2)", x.code(0, 0, 2), round);
            DUE.due("back()", x.back(), NO);
        }
    }

    private static void backOfNone() {
        DUE.part("26: NO. Nothing changes then");
        TWINS.same("back() of none", TypedBlocks::new, TypedBlocks::back, NO);
        TWINS.same("back() of none, with acts", () -> {
            TypedBlocks x = Due.told(BLOCK);
            x.cut(0, 0);
            x.want(1, 1, 1);
            return x;
        }, TypedBlocks::back, NO);
        TWINS.same("back() of no more", () -> {
            TypedBlocks x = Twins.busy();
            x.back();
            x.back();
            x.cut(0, 0);
            return x;
        }, TypedBlocks::back, NO);
    }

    private static void nothingUndoneThen() {
        DUE.part("26: nothing is UNDONE then");
        for (int acts = 0; acts <= 9; acts++) {
            TypedBlocks x = Due.laid(BLOCK + SET);
            x.cut(0, 0);
            x.undo();
            x.below(0, 0);
            DUE.due("keep()", x.keep(), 1);
            DUE.due("count(4) behind keep()", x.count(4), 1);
            for (int i = 0; i < acts; i++) {
                x.put(0, 0, 1, 0, 10 + i, 0);
            }
            DUE.due("back()", x.back(), 0);
            DUE.due("count(4)", x.count(4), 0);
            DUE.due("undo()", x.undo(), NO);
            DUE.due("code(0, 0, 2)", x.code(0, 0, 2), 4);
            DUE.due("label(0, 8)", x.label(0, 8), 0);
            x.cut(0, 0);
            DUE.due("undo()", x.undo(), 0);
            DUE.due("code(0, 0, 2)", x.code(0, 0, 2), 4);
        }
    }

    private static void keptIsAll() {
        DUE.part("KEPT is all as it stands");
        TypedBlocks x = new TypedBlocks();
        String before = Twins.program(x);
        DUE.due("keep()", x.keep(), 1);
        x.put(0, 2, 4, 1, 1, 3);
        x.add(1, 2, 8, 2, 1, 0);
        x.cut(2, 0);
        x.want(0, 0, 0);
        x.want(2, 3, 8);
        x.below(0, 1);
        x.below(1, 0);
        DUE.holds("it is otherwise", !Twins.program(x).equals(before));
        DUE.due("back()", x.back(), 0);
        DUE.holds("it is as before", Twins.program(x).equals(before));
        // What is kept stays as it was, though acts and undo come behind it.
        x.cut(0, 0);
        x.keep();
        x.undo();
        DUE.due("label(0, 9)", x.label(0, 9), 5);
        DUE.due("back()", x.back(), 0);
        DUE.due("label(0, 9)", x.label(0, 9), 4);
        // As this is read, THE TEXT is none of it.
        Due.retell(x, "s0;");
        x.keep();
        x.wipe();
        DUE.due("back()", x.back(), 0);
        DUE.due("count(6)", x.count(6), 0);
    }

    private static void howMany() {
        DUE.part("27: How many: the least that there can be");
        TypedBlocks x = Due.laid(BLOCK);
        x.wipe();
        int[] due = {0, 1, 0, 0, 0, 0, 0};
        for (int what = 0; what < 7; what++) {
            DUE.due("count(" + what + ")", x.count(what), due[what]);
        }
    }

    private static void howManyAtMost() {
        DUE.part("27: How many: the most that there can be");
        TypedBlocks x = Due.laid("s0;s0;s0;s0;" + (BLOCK + "i1,0,4,0;i1,0,4,0;i1,0,4,0;" + HALT).repeat(4));
        for (int l = 0; l < 4; l++) {
            x.add(l, 0, 0, 0, 0, 0);
            x.add(l, 0, 1, 1, 1, 0);
        }
        DUE.due("add", x.add(3, 0, 0, 0, 0, 0), FULL);
        x.keep();
        x.keep();
        for (int i = x.count(6); i < 203; i++) {
            x.write(';');
        }
        int[] due = {4, 4, 24, 4, 8, 2, 200};
        for (int what = 0; what < 7; what++) {
            DUE.due("count(" + what + ")", x.count(what), due[what]);
        }
    }

    private static void whatOfCount() {
        DUE.part("27: 0 SORTS, .. 6 letters of THE TEXT. BAD");
        for (int what : new int[] {MIN, -2, -1, 7, 8, MAX}) {
            TWINS.sameAnywhere("count(" + what + ")", x -> x.count(what), BAD);
        }
        int[] due = {2, 3, 11, 0, 8, 2, 22};
        for (int what = 0; what < 7; what++) {
            int w = what;
            TWINS.same("count(" + what + ")", Twins::busy, x -> x.count(w), due[what]);
        }
    }

    /** Each of 512 calls is answered as the first one. */
    private static void always(String name, TypedBlocks x, Twins.Call call, int due) {
        for (int i = 1; i <= 512; i++) {
            DUE.due(name + ", the " + i + "-th call", call.on(x), due);
        }
    }

    private static void fiveHundredAndTwelveCalls() {
        DUE.part("An object is used for at most 512 calls");
        always("sure()", new TypedBlocks(), TypedBlocks::sure, 7);
        always("might(0, 3)", new TypedBlocks(), x -> x.might(0, 3), 463);
        always("run(7, 200, 4)", new TypedBlocks(), x -> x.run(7, 200, 4), 14);
        always("day(0, 1, 0)", new TypedBlocks(), x -> x.day(0, 1, 0), 2);
        always("fault()", new TypedBlocks(), TypedBlocks::fault, NONE);
        always("undo()", new TypedBlocks(), TypedBlocks::undo, NO);
        always("put that is so", new TypedBlocks(), x -> x.put(2, 0, 13, 0, 0, 0), NO);
        TypedBlocks acts = new TypedBlocks();
        for (int i = 1; i <= 511; i++) {
            DUE.due("below, the " + i + "-th", acts.below(0, i % 2), 1);
        }
        DUE.due("undo() as the 512-th call", acts.undo(), 7);
        TypedBlocks kept = new TypedBlocks();
        for (int i = 1; i <= 256; i++) {
            DUE.due("keep()", kept.keep(), 1);
            DUE.due("back()", kept.back(), 0);
        }
        TypedBlocks written = new TypedBlocks();
        for (int i = 1; i <= 512; i++) {
            DUE.due("write, the " + i + "-th", written.write('s'), i <= 200 ? i : FULL);
        }
    }
}
