/** Promises 9 to 14: put, add, cut, want, below, undo. */
public final class ActsTest {
    private static final int BAD = TypedBlocks.BAD, NO = TypedBlocks.NO, FULL = TypedBlocks.FULL;
    private static final Due DUE = new Due();

    public static void main(String[] args) {
        putting();
        puttingWrong();
        adding();
        cutting();
        wanting();
        openingBelow();
        undoing();
        undoingTheLastEight();
        DUE.finish();
    }

    private static void codeIs(TypedBlocks x, int l, int k, int... parts) {
        for (int what = 0; what < 4; what++) {
            DUE.due("code(" + l + ", " + k + ", " + what + ")", x.code(l, k, what), parts[what]);
        }
    }

    private static void putting() {
        DUE.part("9 put");
        TypedBlocks x = new TypedBlocks();
        DUE.due("put(0, 2, 1, 3, 99, 0)", x.put(0, 2, 1, 3, 99, 0), 4);
        codeIs(x, 0, 2, 1, 3, 99, 0);
        codeIs(x, 0, 1, 4, 1, 0, 0);
        codeIs(x, 0, 3, 6, 1, 0, 0);
        DUE.due("put that is so", x.put(0, 2, 1, 3, 99, 0), NO);
        DUE.due("count(4)", x.count(4), 1);
        DUE.due("put(0, 2, 1, 3, 98, 0)", x.put(0, 2, 1, 3, 98, 0), 1);
        DUE.due("put(0, 2, 1, 2, 98, 0)", x.put(0, 2, 1, 2, 98, 0), 1);
        DUE.due("put(0, 2, 4, 2, 2, 3)", x.put(0, 2, 4, 2, 2, 3), 1);
        DUE.due("put(0, 2, 4, 2, 2, 2)", x.put(0, 2, 4, 2, 2, 2), 4);
        DUE.due("put(0, 2, 3, 0, 1, 0)", x.put(0, 2, 3, 0, 1, 0), 4);
        DUE.due("put(2, 0, 11, 2, 2, 0)", x.put(2, 0, 11, 2, 2, 0), 13);
        DUE.due("count(2)", x.count(2), 10);
        DUE.due("count(4)", x.count(4), 7);
    }

    private static void puttingWrong() {
        DUE.part("9 put, wrong");
        TypedBlocks x = new TypedBlocks();
        int[][] wrong = {{3, 0, 13, 0, 0, 0}, {-1, 0, 13, 0, 0, 0}, {0, 5, 13, 0, 0, 0}, {0, -1, 13, 0, 0, 0},
            {0, 0, 14, 0, 0, 0}, {0, 0, -1, 0, 0, 0}, {0, 0, 0, 4, 0, 0}, {0, 0, 0, -1, 0, 0}, {0, 0, 0, 0, -1, 0},
            {0, 0, 0, 0, 0, -1}, {0, 0, 0, 0, 0, 1}, {0, 0, 1, 0, 100, 0}, {0, 0, 1, 0, -1, 0}, {0, 0, 3, 0, 2, 0},
            {0, 0, 4, 0, 3, 0}, {0, 0, 4, 0, 0, 4}, {0, 0, 5, 0, 0, 3}, {0, 0, 6, 0, 1, 0}, {0, 0, 8, 0, 3, 0},
            {0, 0, 9, 3, 0, 0}, {0, 0, 10, 0, 3, 0}, {0, 0, 11, 3, 0, 0}, {0, 0, 11, 0, 3, 0}, {0, 0, 12, 4, 0, 0},
            {0, 0, 13, 1, 0, 0}, {Integer.MIN_VALUE, 0, 13, 0, 0, 0}, {0, Integer.MAX_VALUE, 13, 0, 0, 0},
            {0, 0, Integer.MAX_VALUE, 0, 0, 0}, {0, 0, Integer.MIN_VALUE, 0, 0, 0}};
        for (int[] w : wrong) {
            DUE.due("put(" + java.util.Arrays.toString(w) + ")", x.put(w[0], w[1], w[2], w[3], w[4], w[5]), BAD);
            if (w[1] != 5) {
                DUE.due("add(" + java.util.Arrays.toString(w) + ")", x.add(w[0], w[1], w[2], w[3], w[4], w[5]), BAD);
            }
        }
        DUE.due("count(4)", x.count(4), 0);
        codeIs(x, 0, 0, 3, 1, 0, 0);
    }

    private static void adding() {
        DUE.part("10 add");
        TypedBlocks x = new TypedBlocks();
        DUE.due("add(0, 0, 1, 2, 3, 0)", x.add(0, 0, 1, 2, 3, 0), 6);
        codeIs(x, 0, 0, 1, 2, 3, 0);
        codeIs(x, 0, 1, 3, 1, 0, 0);
        codeIs(x, 0, 5, 11, 1, 2, 0);
        DUE.due("add to six", x.add(0, 0, 1, 2, 3, 0), FULL);
        DUE.due("add to six, too far", x.add(0, 7, 1, 2, 3, 0), BAD);
        DUE.due("add to six, wrong", x.add(0, 0, 1, 2, 3, 1), BAD);
        DUE.due("add(1, 4, ..) behind all", x.add(1, 4, 13, 0, 0, 0), 5);
        codeIs(x, 1, 4, 13, 0, 0, 0);
        codeIs(x, 1, 3, 12, 3, 0, 0);
        DUE.due("add(2, 2, ..) behind that", x.add(2, 2, 13, 0, 0, 0), BAD);
        DUE.due("add(1, 2, ..) between", x.add(1, 2, 0, 1, 2, 0), 6);
        codeIs(x, 1, 1, 5, 0, 1, 0);
        codeIs(x, 1, 2, 0, 1, 2, 0);
        codeIs(x, 1, 3, 2, 0, 2, 0);
        codeIs(x, 1, 5, 13, 0, 0, 0);
        DUE.due("count(2)", x.count(2), 13);
        DUE.due("count(4)", x.count(4), 3);
    }

    private static void cutting() {
        DUE.part("11 cut");
        TypedBlocks x = new TypedBlocks();
        DUE.due("cut(1, 4)", x.cut(1, 4), BAD);
        DUE.due("cut(1, -1)", x.cut(1, -1), BAD);
        DUE.due("cut(3, 0)", x.cut(3, 0), BAD);
        DUE.due("cut(min, max)", x.cut(Integer.MIN_VALUE, Integer.MAX_VALUE), BAD);
        DUE.due("cut(1, 1)", x.cut(1, 1), 3);
        codeIs(x, 1, 0, 7, 1, 0, 0);
        codeIs(x, 1, 1, 2, 0, 2, 0);
        codeIs(x, 1, 2, 12, 3, 0, 0);
        DUE.due("code(1, 3, 0)", x.code(1, 3, 0), BAD);
        DUE.due("cut(2, 0)", x.cut(2, 0), 0);
        DUE.due("cut(2, 0) of none", x.cut(2, 0), BAD);
        DUE.due("count(2)", x.count(2), 8);
        DUE.due("count(4)", x.count(4), 2);
        DUE.due("add to none", x.add(2, 0, 13, 0, 0, 0), 1);
        TypedBlocks y = Due.laid("l0000,,0;i1,0,0,0;i4,1,2,3;i5,3,2,1;i1,2,77,0;i4,3,1,2;i5,1,3,2;");
        DUE.due("cut(0, 0)", y.cut(0, 0), 5);
        codeIs(y, 0, 0, 4, 1, 2, 3);
        codeIs(y, 0, 1, 5, 3, 2, 1);
        codeIs(y, 0, 2, 1, 2, 77, 0);
        codeIs(y, 0, 3, 4, 3, 1, 2);
        codeIs(y, 0, 4, 5, 1, 3, 2);
        DUE.due("cut(0, 4)", y.cut(0, 4), 4);
        codeIs(y, 0, 3, 4, 3, 1, 2);
    }

    private static void wanting() {
        DUE.part("12 want");
        TypedBlocks x = new TypedBlocks();
        DUE.due("want(1, 3, 8) that is so", x.want(1, 3, 8), NO);
        DUE.due("want(1, 3, 3)", x.want(1, 3, 3), 8);
        DUE.due("want(1, 3, 6)", x.want(1, 3, 6), 3);
        DUE.due("label(1, 3)", x.label(1, 3), 6);
        DUE.due("want(1, 0, 0)", x.want(1, 0, 0), 1);
        int[][] wrong = {{3, 0, 0}, {-1, 0, 0}, {0, 4, 0}, {0, -1, 0}, {0, 0, -1}, {0, 0, 4}, {0, 0, 5}, {0, 0, 9},
            {0, 0, 10}, {0, 0, Integer.MIN_VALUE}, {0, 0, Integer.MAX_VALUE}, {0, Integer.MAX_VALUE, 0}};
        for (int[] w : wrong) {
            DUE.due("want(" + java.util.Arrays.toString(w) + ")", x.want(w[0], w[1], w[2]), BAD);
        }
        DUE.due("count(4)", x.count(4), 3);
        TypedBlocks y = Due.laid("s0;s0;s0;s0;l0000,,0;l0000,,0;l0000,,0;l0000,,0;");
        DUE.due("want(3, 3, 5)", y.want(3, 3, 5), 0);
        DUE.due("want(3, 3, 9)", y.want(3, 3, 9), 5);
        TypedBlocks none = Due.laid("l0000,,0;");
        DUE.due("want(0, 0, 2) of no sort", none.want(0, 0, 2), BAD);
        DUE.due("want(0, 0, 6)", none.want(0, 0, 6), 0);
        DUE.due("want(0, 0, 7)", none.want(0, 0, 7), BAD);
    }

    private static void openingBelow() {
        DUE.part("13 below");
        TypedBlocks x = new TypedBlocks();
        DUE.due("below(0, 0)", x.below(0, 0), NO);
        DUE.due("below(0, 1)", x.below(0, 1), 1);
        DUE.due("label(0, 8)", x.label(0, 8), 1);
        DUE.due("below(0, 1)", x.below(0, 1), NO);
        DUE.due("below(0, 0)", x.below(0, 0), 1);
        DUE.due("label(0, 8)", x.label(0, 8), 0);
        DUE.due("below(0, 2)", x.below(0, 2), BAD);
        DUE.due("below(0, -1)", x.below(0, -1), BAD);
        DUE.due("below(3, 0)", x.below(3, 0), BAD);
        DUE.due("below(-1, 0)", x.below(-1, 0), BAD);
        DUE.due("count(4)", x.count(4), 2);
    }

    private static void undoing() {
        DUE.part("14 undo");
        TypedBlocks x = new TypedBlocks();
        DUE.due("undo()", x.undo(), NO);
        x.put(0, 0, 13, 0, 0, 0);
        x.add(2, 0, 6, 3, 0, 0);
        x.cut(1, 0);
        x.want(0, 2, 3);
        x.below(2, 0);
        DUE.due("count(4)", x.count(4), 5);
        DUE.due("undo() of below", x.undo(), 4);
        DUE.due("label(2, 8)", x.label(2, 8), 1);
        DUE.due("label(0, 2)", x.label(0, 2), 3);
        DUE.due("undo() of want", x.undo(), 3);
        DUE.due("label(0, 2)", x.label(0, 2), 1);
        DUE.due("label(1, 9)", x.label(1, 9), 3);
        DUE.due("undo() of cut", x.undo(), 2);
        codeIs(x, 1, 0, 7, 1, 0, 0);
        codeIs(x, 1, 3, 12, 3, 0, 0);
        DUE.due("undo() of add", x.undo(), 1);
        codeIs(x, 2, 0, 13, 0, 0, 0);
        DUE.due("label(2, 9)", x.label(2, 9), 1);
        DUE.due("undo() of put", x.undo(), 0);
        codeIs(x, 0, 0, 3, 1, 0, 0);
        DUE.due("undo()", x.undo(), NO);
        DUE.due("count(2)", x.count(2), 10);
    }

    private static void undoingTheLastEight() {
        DUE.part("14 undo, the last 8");
        TypedBlocks x = new TypedBlocks();
        for (int w = 1; w <= 20; w++) {
            DUE.due("put", x.put(2, 0, 1, 0, w, 0), w == 1 ? 13 : 1);
            DUE.due("count(4)", x.count(4), Math.min(w, 8));
        }
        for (int left = 7; left >= 5; left--) {
            DUE.due("undo()", x.undo(), left);
        }
        DUE.due("code(2, 0, 2)", x.code(2, 0, 2), 17);
        x.put(2, 0, 1, 0, 50, 0);
        DUE.due("count(4)", x.count(4), 6);
        for (int left = 5; left >= 0; left--) {
            DUE.due("undo()", x.undo(), left);
        }
        DUE.due("code(2, 0, 2)", x.code(2, 0, 2), 12);
        DUE.due("undo()", x.undo(), NO);
        DUE.due("code(2, 0, 2)", x.code(2, 0, 2), 12);
    }
}
