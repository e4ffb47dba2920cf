/** Promises 23 to 27: run, day, keep, back, count. */
public final class RunDaysTest {
    private static final int BAD = TypedBlocks.BAD, NO = TypedBlocks.NO, FULL = TypedBlocks.FULL,
        NONE = TypedBlocks.NONE;
    private static final int GOES = 0, OVER = 1, STUCK = 2, NO_ROOM = 3;
    private static final String HALT = "i13,0,0,0;";
    private static final Due DUE = new Due();

    public static void main(String[] args) {
        running();
        runningWrong();
        beginning();
        words();
        stuck();
        full();
        tuples();
        labels();
        days();
        daysWrong();
        keeping();
        counting();
        DUE.finish();
    }

    private static void runs(TypedBlocks x, int w, int n, int... due) {
        for (int what = 0; what < due.length; what++) {
            DUE.due("run(" + w + ", " + n + ", " + what + ")", x.run(w, n, what), due[what]);
        }
    }

    private static void runs(String text, int w, int... due) {
        DUE.part("23 run " + text);
        runs(Due.laid(text), w, 200, due);
    }

    private static void running() {
        DUE.part("23 run");
        TypedBlocks x = new TypedBlocks();
        runs(x, 7, 0, GOES, 0, 0, 0, 7);
        runs(x, 7, 1, GOES, 1, 0, 1, 7);
        runs(x, 7, 5, GOES, 5, 1, 0, 7);
        runs(x, 7, 9, GOES, 9, 2, 0, 14);
        runs(x, 7, 10, OVER, 10, 2, 0, 14);
        runs(x, 7, 200, OVER, 10, 2, 0, 14);
        runs(x, 99, 200, OVER, 10, 2, 0, 198);
        DUE.due("code(0, 0, 0)", x.code(0, 0, 0), 3);
        DUE.due("count(4)", x.count(4), 0);
    }

    private static void runningWrong() {
        DUE.part("23 run, wrong");
        TypedBlocks x = new TypedBlocks();
        int[][] wrong = {{-1, 0, 0}, {100, 0, 0}, {0, -1, 0}, {0, 201, 0}, {0, 0, -1}, {0, 0, 5},
            {Integer.MIN_VALUE, 0, 0}, {0, Integer.MAX_VALUE, 0}, {0, 0, Integer.MAX_VALUE}};
        for (int[] w : wrong) {
            DUE.due("run(" + java.util.Arrays.toString(w) + ")", x.run(w[0], w[1], w[2]), BAD);
        }
    }

    private static void beginning() {
        runs("l0000,,1;" + HALT, 42, OVER, 1, 0, 0, 42);
        runs("l6000,,1;" + HALT, 42, STUCK, 0, 0, 0, NONE);
        runs("s0;l2000,,1;" + HALT, 42, STUCK, 0, 0, 0, NONE);
        runs("s0;l2000,,1;i5,0,0,0;" + HALT, 42, OVER, 2, 0, 1, 42);
        runs("s0;s010;l3000,,1;i5,0,0,1;" + HALT, 42, STUCK, 1, 0, 1, NONE);
        runs("s0;s010;l3000,,1;i5,0,0,1;i5,0,0,0;" + HALT, 42, OVER, 3, 0, 2, 42);
        // The upmost of what is wanted on the stack comes first, and nothing is below.
        runs("l0000,61,1;i7,1,0,0;i7,0,0,0;" + HALT, 42, OVER, 3, 0, 2, 42);
        runs("l0000,16,1;i7,1,0,0;i7,0,0,0;" + HALT, 42, STUCK, 2, 0, 2, NONE);
        runs("l0000,1,1;i7,1,0,0;i7,0,0,0;" + HALT, 42, STUCK, 1, 0, 1, 42);
        // One tuple of each sort for all: what is put by one is seen by the other.
        runs("s0;s1;l0223,,1;i1,3,5,0;i4,1,0,3;i5,0,2,0;" + HALT, 42, OVER, 4, 0, 3, 5);
        runs("s0;s1;l0203,,1;i1,2,5,0;i4,1,0,2;i5,0,3,0;i5,0,0,0;" + HALT, 42, OVER, 5, 0, 4, 5);
    }

    private static void words() {
        runs("l0000,,1;i1,1,99,0;i0,0,1,0;i2,0,1,0;" + HALT, 1, OVER, 4, 0, 3, 198);
        runs("l0000,,1;i2,0,0,0;" + HALT, 99, OVER, 2, 0, 1, 198);
        // Doubled until 10000 is passed: 99 * 2^7 = 12672.
        runs("l0000,,1;i2,0,0,0;i2,0,0,0;i2,0,0,0;i2,0,0,0;i9,1,0,0;l0000,,1;i2,0,0,0;i2,0,0,0;i2,0,0,0;" + HALT, 99,
            OVER, 9, 1, 3, 2672);
        runs("l0000,,1;i10,0,1,0;" + HALT + "l0000,,1;i1,0,9,0;" + HALT, 0, OVER, 2, 0, 1, 0);
        runs("l0000,,1;i10,0,1,0;" + HALT + "l0000,,1;i1,0,9,0;" + HALT, 1, OVER, 3, 1, 1, 9);
        runs("l0000,,1;i9,0,0,0;", 1, GOES, 200, 0, 0, 1);
    }

    private static void stuck() {
        runs("l0000,,1;", 3, STUCK, 0, 0, 0, 3);
        runs("l0000,,1;i1,0,4,0;", 3, STUCK, 1, 0, 1, 4);
        runs("l0000,,1;i9,1,0,0;l0000,,1;", 3, STUCK, 1, 1, 0, 3);
        runs("l6000,,1;i2,1,0,0;", 3, STUCK, 0, 0, 0, NONE);
        runs("l0600,,1;i2,1,0,0;", 3, STUCK, 0, 0, 0, 3);
        runs("l0600,,1;i10,1,0,0;", 3, STUCK, 0, 0, 0, 3);
        runs("l0600,,1;i4,1,0,0;", 3, STUCK, 0, 0, 0, 3);
        runs("l0600,,1;i5,1,1,0;", 3, STUCK, 0, 0, 0, 3);
        runs("l0000,,1;i4,1,0,0;", 3, STUCK, 0, 0, 0, 3);
        runs("l0000,,1;i5,1,1,0;", 3, STUCK, 0, 0, 0, 3);
        runs("s00;l0200,,1;i4,1,2,0;", 3, STUCK, 0, 0, 0, 3);
        runs("s00;l0200,,1;i5,1,1,2;", 3, STUCK, 0, 0, 0, 3);
        runs("s00;l0200,,1;i3,1,0,0;i4,1,0,0;i5,2,1,1;", 3, STUCK, 2, 0, 2, 3);
        runs("l0000,,1;i7,1,0,0;", 3, STUCK, 0, 0, 0, 3);
        runs("l0000,,1;i12,1,0,0;", 3, STUCK, 0, 0, 0, 3);
        runs("s0;l0200,,1;i12,1,0,0;", 3, STUCK, 0, 0, 0, 3);
        DUE.part("23 run, as many steps as can be");
        runs(Due.laid("l0000,,1;i1,0,4,0;"), 3, 1, GOES, 1, 0, 1, 4);
        runs(Due.laid("l0000,,1;i1,0,4,0;"), 3, 2, STUCK, 1, 0, 1, 4);
    }

    private static void full() {
        runs("l0000,,1;i6,0,0,0;i9,0,0,0;", 3, NO_ROOM, 32, 0, 0, 3);
        runs("l0000,111,1;i6,0,0,0;i9,0,0,0;", 3, NO_ROOM, 26, 0, 0, 3);
        runs("s0;l0000,,1;i3,1,0,0;i9,0,0,0;", 3, NO_ROOM, 16, 0, 0, 3);
        runs("s0;s1;l3200,,1;i3,1,0,0;i9,0,0,0;", 3, NO_ROOM, 16, 0, 0, NONE);
        runs("l0000,,1;i6,0,0,0;i7,1,0,0;i9,0,0,0;", 3, GOES, 200, 0, 2, 3);
    }

    private static void tuples() {
        // The machine puts anything into a field.
        runs("s0;l0600,,1;i3,2,0,0;i4,2,0,1;i5,0,2,0;" + HALT, 3, STUCK, 3, 0, 3, NONE);
        runs("s0;l0000,,1;i3,2,0,0;i0,3,2,0;i4,2,0,1;i5,0,3,0;" + HALT, 3, OVER, 5, 0, 4, 3);
        runs("s0;l0000,,1;i3,2,0,0;i3,3,0,0;i4,2,0,1;i5,0,3,0;" + HALT, 3, STUCK, 3, 0, 3, 3);
        // A tuple may hold itself.
        runs("s0;l2000,,1;i3,1,0,0;i4,1,0,1;i5,0,1,0;i5,0,0,0;i5,0,0,0;" + HALT, 3, STUCK, 5, 0, 5, NONE);
    }

    private static void labels() {
        runs("l0000,,1;i8,1,1,0;i12,1,0,0;l0000,,1;" + HALT, 3, OVER, 3, 1, 0, 3);
        runs("l6000,,1;i12,0,0,0;", 3, GOES, 200, 0, 0, NONE);
        runs("l0000,,1;i8,1,0,0;i12,1,0,0;", 3, GOES, 200, 0, 0, 3);
        runs("l7000,,1;i12,0,0,0;l0000,,1;i1,0,8,0;" + HALT, 3, OVER, 3, 1, 1, 8);
        runs("l0000,,1;i11,1,2,0;l0000,,1;i12,3,0,0;l0000,,1;" + HALT, 3, OVER, 3, 2, 0, 3);
        runs("l0000,7,1;i7,2,0,0;i12,2,0,0;l0000,,1;" + HALT, 3, OVER, 3, 1, 0, 3);
        runs("l0000,,1;i11,1,2,0;l0000,,1;i0,0,3,0;" + HALT + "l0000,,1;", 3, STUCK, 2, 1, 1, NONE);
    }

    /** Day's draws told again, as acts on the object itself. */
    private static int[] dayByActs(String text, int z, int n) {
        TypedBlocks x = Due.laid(text);
        int all = 0;
        for (int k = 0; k < n; k++) {
            java.math.BigInteger d = java.math.BigInteger.valueOf(7919L * z + 6151L * k + 1).pow(2);
            int draw = d.mod(java.math.BigInteger.valueOf(65521)).intValue();
            int l = draw % x.count(1);
            int many = x.label(l, 9);
            if (many > 0) {
                int[] kinds = {0, 1, 2, 6, 7};
                int c = kinds[draw / 64 % 5];
                int y = c == 1 ? 1 : c > 2 ? 0 : draw / 2048 % 4;
                x.put(l, draw / 8 % many, c, draw / 512 % 4, y, 0);
            }
            all += x.count(3) == x.count(1) ? 1 : 0;
        }
        return new int[] {x.count(3), all};
    }

    private static void days() {
        DUE.part("24 day");
        String calm = "l1111,111,1;i6,0,0,0;i0,1,0,0;" + HALT + "l1111,11,1;i6,0,0,0;i6,0,0,0;i7,0,0,0;i1,0,0,0;" + HALT
            + "l1111,1,1;" + HALT;
        String[] texts = {Model.FIRST, calm, "l1000,,0;", "l1111,,1;" + HALT + "l1111,,1;"};
        int sure = 0;
        for (String text : texts) {
            TypedBlocks x = Due.laid(text);
            for (int z : new int[] {0, 1, 2, 3, 5, 77, 500, 4999, 9999}) {
                for (int n : new int[] {1, 2, 3, 19, 20}) {
                    int[] due = dayByActs(text, z, n);
                    DUE.due("day(" + z + ", " + n + ", 0)", x.day(z, n, 0), due[0]);
                    DUE.due("day(" + z + ", " + n + ", 1)", x.day(z, n, 1), due[1]);
                    sure += due[1];
                }
            }
            DUE.due("count(4)", x.count(4), 0);
        }
        DUE.holds("some days are sure", sure > 20);
        TypedBlocks x = new TypedBlocks();
        x.day(5, 20, 0);
        DUE.due("sure()", x.sure(), 7);
    }

    private static void daysWrong() {
        DUE.part("24 day, wrong");
        TypedBlocks x = new TypedBlocks();
        int[][] wrong = {{-1, 1, 0}, {10000, 1, 0}, {0, 0, 0}, {0, 21, 0}, {0, 1, -1}, {0, 1, 2},
            {Integer.MAX_VALUE, 1, 0}, {0, Integer.MIN_VALUE, 0}, {0, 1, Integer.MIN_VALUE}};
        for (int[] w : wrong) {
            DUE.due("day(" + java.util.Arrays.toString(w) + ")", x.day(w[0], w[1], w[2]), BAD);
        }
    }

    private static void keeping() {
        DUE.part("25, 26 keep, back");
        TypedBlocks x = new TypedBlocks();
        DUE.due("back()", x.back(), NO);
        DUE.due("keep()", x.keep(), 1);
        x.want(0, 0, 3);
        x.cut(1, 0);
        DUE.due("keep()", x.keep(), 2);
        DUE.due("keep()", x.keep(), FULL);
        DUE.due("count(5)", x.count(5), 2);
        DUE.due("count(4)", x.count(4), 2);
        x.below(2, 0);
        x.put(2, 0, 1, 1, 1, 0);
        DUE.due("back()", x.back(), 1);
        DUE.due("undo() behind it", x.undo(), NO);
        DUE.due("label(2, 8)", x.label(2, 8), 1);
        DUE.due("code(2, 0, 0)", x.code(2, 0, 0), 13);
        DUE.due("label(0, 0)", x.label(0, 0), 3);
        DUE.due("label(1, 9)", x.label(1, 9), 3);
        x.cut(1, 0);
        DUE.due("keep()", x.keep(), 2);
        DUE.due("back()", x.back(), 1);
        DUE.due("label(1, 9)", x.label(1, 9), 2);
        DUE.due("back()", x.back(), 0);
        DUE.due("label(0, 0)", x.label(0, 0), 1);
        DUE.due("label(1, 9)", x.label(1, 9), 4);
        DUE.due("sure()", x.sure(), 7);
        DUE.due("back()", x.back(), NO);
    }

    private static void counting() {
        DUE.part("27 count");
        TypedBlocks x = Due.laid("s0;s0;s0;s0;l1000,,1;" + HALT + "l0000,,1;" + HALT + HALT);
        x.keep();
        x.cut(1, 0);
        x.cut(1, 0);
        int[] due = {4, 2, 1, 1, 2, 1, 12 + 9 + 10 + 9 + 20};
        for (int what = 0; what < due.length; what++) {
            DUE.due("count(" + what + ")", x.count(what), due[what]);
        }
        for (int what : new int[] {-1, 7, Integer.MIN_VALUE, Integer.MAX_VALUE}) {
            DUE.due("count(" + what + ")", x.count(what), BAD);
        }
    }
}
