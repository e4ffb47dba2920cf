import java.util.Arrays;

/** The acts of part 2, and promises 9 to 14: a test for each sentence that names a bound. */
public final class ActBoundsTest {
    private static final int BAD = TypedBlocks.BAD, NO = TypedBlocks.NO, FULL = TypedBlocks.FULL;
    private static final int MIN = Integer.MIN_VALUE, MAX = Integer.MAX_VALUE;
    private static final int[] FAR = {MIN, -1, 0, 1, 2, 3, 4, 5, 6, 7, MAX};
    private static final String BLOCK = "l0000,,0;", SET = "i1,0,0,0;";
    private static final Due DUE = new Due();
    private static final Twins TWINS = new Twins(DUE);

    public static void main(String[] args) {
        whatItWas();
        instructionsThatMayBe();
        sortsAndLabelsThatThereAre();
        placesOfPut();
        putThatIsSo();
        refusedPut();
        placesOfAdd();
        theOthersStay();
        theOtherBlocksStay();
        sixAtMost();
        refusedAdd();
        badAheadOfFull();
        placesOfCut();
        cutDownToNone();
        refusedCut();
        typesOfWant();
        registersOfWant();
        wantThatIsSo();
        refusedWant();
        nothingOrAnything();
        refusedBelow();
        nothingToUndo();
        theLastEight();
        eachActUndone();
        notUndone();
        refusedUndo();
        DUE.finish();
    }

    private static int put(TypedBlocks x, int l, int k, int[] i) {
        return x.put(l, k, i[0], i[1], i[2], i[3]);
    }

    private static int add(TypedBlocks x, int l, int k, int[] i) {
        return x.add(l, k, i[0], i[1], i[2], i[3]);
    }

    /** An instruction whose part p is this, the others 0 or the most that they may be. */
    private static int[] instruction(int c, int p, int value, boolean others, int sorts, int labels) {
        int[] i = {c, 0, 0, 0};
        for (int q = 0; q < 3; q++) {
            i[q + 1] = q == p ? value : others ? Math.max(0, Operands.most(c, q, sorts, labels)) : 0;
        }
        return i;
    }

    private static void codeIs(TypedBlocks x, int l, int k, int... parts) {
        for (int what = 0; what < 4; what++) {
            DUE.due("code(" + l + ", " + k + ", " + what + ")", x.code(l, k, what), parts[what]);
        }
    }

    private static void whatItWas() {
        DUE.part("9: PUT OTHERWISE: C that it was");
        TypedBlocks x = Due.laid("s0;" + BLOCK + SET + SET);
        int was = 1;
        for (int c = Operands.KINDS - 1; c >= 0; c--) {
            DUE.due("put(0, 1, " + c + ", 0, 0, 0)", x.put(0, 1, c, 0, 0, 0), c == was ? NO : was);
            was = c;
        }
        codeIs(x, 0, 0, 1, 0, 0, 0);
        codeIs(x, 0, 1, 0, 0, 0, 0);
        DUE.due("label(0, 9)", x.label(0, 9), 2);
    }

    /** With put and add: each part of each instruction at its least and most, and one beyond. */
    private static void allowed(TypedBlocks x, int sorts, int labels, int c, int p) {
        int most = Operands.most(c, p, sorts, labels);
        for (int value : new int[] {MIN, -1, 0, most, most + 1, 100, MAX}) {
            for (int others = 0; others < 2; others++) {
                int[] i = instruction(c, p, value, others == 1, sorts, labels);
                boolean may = value >= 0 && value <= most && (c != 3 || sorts > 0);
                String told = Arrays.toString(i) + " of " + sorts + " sorts, " + labels + " labels";
                int was = x.code(0, 0, 0);
                boolean isSo = may && was == c && x.code(0, 0, 1) == i[1] && x.code(0, 0, 2) == i[2]
                    && x.code(0, 0, 3) == i[3];
                DUE.due("put " + told, put(x, 0, 0, i), !may ? BAD : isSo ? NO : was);
                DUE.due("add " + told, add(x, 0, 1, i), may ? 2 : BAD);
                if (may) {
                    codeIs(x, 0, 0, i);
                    codeIs(x, 0, 1, i);
                    x.undo();
                }
            }
        }
    }

    private static void instructionsThatMayBe() {
        DUE.part("9, 10: BAD (no INSTRUCTION like that, too): C 0 to 13, X, Y, Z as may be told");
        for (int c = 0; c < Operands.KINDS; c++) {
            for (int p = 0; p < 3; p++) {
                allowed(Due.laid("s0;s0;" + BLOCK + SET + BLOCK + BLOCK), 2, 3, c, p);
            }
        }
        TypedBlocks x = Due.laid("s0;" + BLOCK + SET);
        for (int c : new int[] {MIN, MIN + 13, -14, -1, 14, 15, 256, MAX}) {
            DUE.due("put(0, 0, " + c + ", 0, 0, 0)", x.put(0, 0, c, 0, 0, 0), BAD);
            DUE.due("add(0, 0, " + c + ", 0, 0, 0)", x.add(0, 0, c, 0, 0, 0), BAD);
        }
    }

    private static void sortsAndLabelsThatThereAre() {
        DUE.part("9, 10: LABELS, SORTS that there are; BAD");
        for (int sorts = 0; sorts <= 4; sorts++) {
            allowed(Due.laid("s0;".repeat(sorts) + BLOCK + SET), sorts, 1, 3, 1);
        }
        for (int labels = 1; labels <= 4; labels++) {
            String text = BLOCK + SET + BLOCK.repeat(labels - 1);
            int[][] places = {{8, 1}, {9, 0}, {10, 1}, {11, 0}, {11, 1}};
            for (int[] place : places) {
                allowed(Due.laid(text), 0, labels, place[0], place[1]);
            }
        }
    }

    private static void placesOfPut() {
        DUE.part("9: (INSTRUCTIONS of a LABEL: such as there are); BAD");
        for (int many = 0; many <= 6; many++) {
            for (int k : FAR) {
                TypedBlocks x = Due.laid(BLOCK + SET.repeat(6) + BLOCK + SET.repeat(many) + BLOCK + SET);
                boolean is = k >= 0 && k < many;
                DUE.due("put(1, " + k + ") of " + many, x.put(1, k, 6, 3, 0, 0), is ? 1 : BAD);
                for (int i = 0; i < many; i++) {
                    DUE.due("code(1, " + i + ", 0)", x.code(1, i, 0), i == k ? 6 : 1);
                }
                DUE.due("count(2)", x.count(2), 7 + many);
                DUE.due("count(4)", x.count(4), is ? 1 : 0);
            }
        }
        TypedBlocks x = Due.laid(BLOCK + SET + BLOCK + SET + BLOCK);
        for (int l : FAR) {
            DUE.due("put(" + l + ", 0)", x.put(l, 0, 6, 3, 0, 0), l == 0 || l == 1 ? 1 : BAD);
        }
    }

    private static void putThatIsSo() {
        DUE.part("9: NO: it is so");
        TypedBlocks x = Due.laid(BLOCK + "i4,1,2,3;");
        DUE.due("put that is so", x.put(0, 0, 4, 1, 2, 3), NO);
        int[][] near = {{5, 1, 2, 2}, {4, 0, 2, 3}, {4, 1, 1, 3}, {4, 1, 2, 2}};
        for (int[] i : near) {
            DUE.due("put " + Arrays.toString(i), put(x, 0, 0, i), 4);
            DUE.due("put again", put(x, 0, 0, i), NO);
            DUE.due("undo()", x.undo(), 0);
        }
        // Alike but for C alone: MOVE and ADD of the same registers.
        TypedBlocks y = Due.laid(BLOCK + "i0,1,2,0;");
        DUE.due("put(0, 0, 2, 1, 2, 0)", y.put(0, 0, 2, 1, 2, 0), 0);
        DUE.due("put(0, 0, 2, 1, 2, 0)", y.put(0, 0, 2, 1, 2, 0), NO);
        TWINS.sameAnywhere("put that is so", z -> z.put(0, 2, 4, 1, 1, 2), NO);
        TWINS.same("put that is so, in a full block", () -> Due.laid(BLOCK + SET.repeat(6)), z -> z.put(0, 5, 1, 0, 0, 0), NO);
    }

    private static void refusedPut() {
        DUE.part("9: BAD. Nothing changes then");
        int[][] wrong = {{-1, 0, 13, 0, 0, 0}, {3, 0, 13, 0, 0, 0}, {0, -1, 13, 0, 0, 0}, {0, 5, 13, 0, 0, 0},
            {0, 0, 14, 0, 0, 0}, {0, 0, -1, 0, 0, 0}, {0, 0, 0, 4, 0, 0}, {0, 0, 0, 0, 4, 0}, {0, 0, 0, 0, 0, 1},
            {0, 0, 1, 0, 100, 0}, {0, 0, 3, 0, 2, 0}, {0, 0, 4, 0, 3, 0}, {0, 0, 5, 0, 0, 3}, {0, 0, 9, 3, 0, 0},
            {0, 0, 11, 0, 3, 0}, {0, 0, 13, 1, 0, 0}, {MIN, MAX, MIN, MAX, MIN, MAX}};
        for (int[] w : wrong) {
            TWINS.sameAnywhere("put" + Arrays.toString(w), x -> x.put(w[0], w[1], w[2], w[3], w[4], w[5]), BAD);
        }
    }

    private static void placesOfAdd() {
        DUE.part("10: PUT IN ahead of the k-th (k as many as there are: behind all): how many there are; BAD");
        for (int many = 0; many <= 5; many++) {
            for (int k : FAR) {
                TypedBlocks x = Due.laid(BLOCK + SET + BLOCK + SET.repeat(many) + BLOCK + SET);
                boolean is = k >= 0 && k <= many;
                DUE.due("add(1, " + k + ") of " + many, x.add(1, k, 4, 3, 2, 1), is ? many + 1 : BAD);
                DUE.due("label(1, 9)", x.label(1, 9), is ? many + 1 : many);
                for (int i = 0; i < x.label(1, 9); i++) {
                    codeIs(x, 1, i, i == k ? new int[] {4, 3, 2, 1} : new int[] {1, 0, 0, 0});
                }
                DUE.due("code(1, behind all, 0)", x.code(1, x.label(1, 9), 0), BAD);
                codeIs(x, 0, 0, 1, 0, 0, 0);
                codeIs(x, 2, 0, 1, 0, 0, 0);
            }
        }
        TypedBlocks x = Due.laid(BLOCK + BLOCK);
        for (int l : FAR) {
            DUE.due("add(" + l + ", 0)", x.add(l, 0, 13, 0, 0, 0), l == 0 || l == 1 ? 1 : BAD);
        }
    }

    /** Six instructions no part of which is as in the next one. */
    private static final int[][] SIX = {{4, 3, 0, 1}, {5, 0, 1, 2}, {4, 1, 2, 3}, {5, 2, 3, 0}, {4, 3, 2, 1}, {5, 1, 0, 2}};

    private static String told(int many) {
        StringBuilder text = new StringBuilder(BLOCK);
        for (int i = 0; i < many; i++) {
            text.append('i').append(SIX[i][0]).append(',').append(SIX[i][1]).append(',').append(SIX[i][2]).append(',')
                .append(SIX[i][3]).append(';');
        }
        return text.toString();
    }

    private static void theOthersStay() {
        DUE.part("10, 11: PUT IN, TAKEN OUT (the others stay as they are, in their order)");
        for (int k = 0; k <= 5; k++) {
            TypedBlocks x = Due.laid(told(5));
            DUE.due("add(0, " + k + ")", x.add(0, k, 1, 2, 99, 0), 6);
            for (int i = 0; i < 6; i++) {
                codeIs(x, 0, i, i == k ? new int[] {1, 2, 99, 0} : SIX[i < k ? i : i - 1]);
            }
            TypedBlocks y = Due.laid(told(6));
            DUE.due("cut(0, " + k + ")", y.cut(0, k), 5);
            for (int i = 0; i < 5; i++) {
                codeIs(y, 0, i, SIX[i < k ? i : i + 1]);
            }
        }
    }

    private static void theOtherBlocksStay() {
        DUE.part("10, 11: PUT IN, TAKEN OUT (of one block; what the others want and have stays)");
        String other = "l1678,678,1;i4,1,2,3;";
        for (int k = 0; k <= 5; k++) {
            int at = k;
            Twins.Call[] acts = {x -> x.cut(1, at), x -> x.put(1, at, 1, 3, 99, 0), x -> x.cut(1, 5 - at)};
            TypedBlocks x = Due.laid(other + told(6) + other);
            for (Twins.Call act : acts) {
                act.on(x);
                othersAre(x);
            }
            while (x.label(1, 9) < 6) {
                x.add(1, Math.min(at, x.label(1, 9)), 4, 3, 2, 1);
                othersAre(x);
            }
            DUE.due("add to six", x.add(1, at, 4, 3, 2, 1), FULL);
            othersAre(x);
        }
    }

    private static void othersAre(TypedBlocks x) {
        int[] due = {1, 6, 7, 8, 3, 6, 7, 8, 1, 1};
        for (int l = 0; l <= 2; l += 2) {
            for (int what = 0; what < 10; what++) {
                DUE.due("label(" + l + ", " + what + ")", x.label(l, what), due[what]);
            }
            codeIs(x, l, 0, 4, 1, 2, 3);
        }
    }

    private static void sixAtMost() {
        DUE.part("10: FULL: 6");
        TypedBlocks x = Due.laid(BLOCK + BLOCK);
        for (int i = 1; i <= 6; i++) {
            DUE.due("add, the " + i + "-th", x.add(0, i - 1, 1, 0, i, 0), i);
        }
        for (int k = 0; k <= 6; k++) {
            DUE.due("add(0, " + k + ") to six", x.add(0, k, 13, 0, 0, 0), FULL);
        }
        DUE.due("add to the other block", x.add(1, 0, 13, 0, 0, 0), 1);
        DUE.due("undo()", x.undo(), 6);
        DUE.due("undo()", x.undo(), 5);
        DUE.due("add, the sixth again", x.add(0, 0, 13, 0, 0, 0), 6);
        DUE.due("add to six", x.add(0, 0, 13, 0, 0, 0), FULL);
        DUE.due("cut", x.cut(0, 0), 5);
        DUE.due("add, the sixth again", x.add(0, 5, 13, 0, 0, 0), 6);
        for (int k = 0; k < 5; k++) {
            codeIs(x, 0, k, 1, 0, k + 1, 0);
        }
        codeIs(x, 0, 5, 13, 0, 0, 0);
    }

    private static void refusedAdd() {
        DUE.part("10: BAD; FULL. Nothing changes then");
        int[][] wrong = {{-1, 0, 13, 0, 0, 0}, {3, 0, 13, 0, 0, 0}, {0, -1, 13, 0, 0, 0}, {0, 6, 13, 0, 0, 0},
            {0, 0, 14, 0, 0, 0}, {0, 0, -1, 0, 0, 0}, {0, 0, 0, 4, 0, 0}, {0, 0, 0, 0, 4, 0}, {0, 0, 0, 0, 0, 1},
            {0, 0, 3, 0, 2, 0}, {0, 0, 8, 0, 3, 0}, {MIN, MAX, MIN, MAX, MIN, MAX}};
        for (int[] w : wrong) {
            TWINS.sameAnywhere("add" + Arrays.toString(w), x -> x.add(w[0], w[1], w[2], w[3], w[4], w[5]), BAD);
        }
        for (int k = 0; k <= 6; k++) {
            int at = k;
            TWINS.same("add to six", ActBoundsTest::withSix, x -> x.add(1, at, 13, 0, 0, 0), FULL);
        }
    }

    /** All held, and block 1 full. */
    private static TypedBlocks withSix() {
        TypedBlocks x = Twins.busy();
        x.add(1, 4, 6, 1, 0, 0);
        x.add(1, 0, 6, 2, 0, 0);
        return x;
    }

    private static void badAheadOfFull() {
        DUE.part("10: BAD; FULL. Of several the first");
        int[][] wrong = {{1, 7, 13, 0, 0, 0}, {1, -1, 13, 0, 0, 0}, {1, 0, 14, 0, 0, 0}, {1, 0, 13, 1, 0, 0},
            {1, 6, 3, 0, 2, 0}, {1, 6, 9, 3, 0, 0}};
        for (int[] w : wrong) {
            TWINS.same("add" + Arrays.toString(w), ActBoundsTest::withSix, x -> x.add(w[0], w[1], w[2], w[3], w[4], w[5]), BAD);
        }
    }

    private static void placesOfCut() {
        DUE.part("11: TAKEN OUT: how many are left; BAD");
        for (int many = 0; many <= 6; many++) {
            for (int k : FAR) {
                StringBuilder told = new StringBuilder();
                for (int i = 0; i < many; i++) {
                    told.append("i1,3,").append(i).append(",0;");
                }
                TypedBlocks x = Due.laid(BLOCK + SET + BLOCK + told + BLOCK + SET);
                boolean is = k >= 0 && k < many;
                DUE.due("cut(1, " + k + ") of " + many, x.cut(1, k), is ? many - 1 : BAD);
                DUE.due("label(1, 9)", x.label(1, 9), is ? many - 1 : many);
                for (int i = 0; i < x.label(1, 9); i++) {
                    codeIs(x, 1, i, 1, 3, is && i >= k ? i + 1 : i, 0);
                }
                codeIs(x, 0, 0, 1, 0, 0, 0);
                codeIs(x, 2, 0, 1, 0, 0, 0);
            }
        }
        TypedBlocks x = Due.laid(BLOCK + SET + BLOCK + SET);
        for (int l : FAR) {
            DUE.due("cut(" + l + ", 0)", x.cut(l, 0), l == 0 || l == 1 ? 0 : BAD);
        }
    }

    private static void cutDownToNone() {
        DUE.part("11: how many are left (none); BAD");
        TypedBlocks x = Due.laid(BLOCK + SET.repeat(6));
        for (int left = 5; left >= 0; left--) {
            DUE.due("cut(0, 0)", x.cut(0, 0), left);
        }
        DUE.due("cut(0, 0) of none", x.cut(0, 0), BAD);
        DUE.due("check(0)", x.check(0), 0);
        DUE.due("reason(0)", x.reason(0), 10);
        DUE.due("add(0, 0)", x.add(0, 0, 13, 0, 0, 0), 1);
    }

    private static void refusedCut() {
        DUE.part("11: BAD. Nothing changes then");
        int[][] wrong = {{-1, 0}, {3, 0}, {0, -1}, {0, 5}, {1, 4}, {2, 2}, {MIN, MAX}, {MAX, MIN}};
        for (int[] w : wrong) {
            TWINS.sameAnywhere("cut" + Arrays.toString(w), x -> x.cut(w[0], w[1]), BAD);
        }
        TWINS.same("cut of none", () -> Due.laid(BLOCK), x -> x.cut(0, 0), BAD);
    }

    private static void typesOfWant() {
        DUE.part("12: WANTED (TYPES 0 to 9; LABELS, SORTS that there are): the TYPE that it was; BAD");
        for (int sorts = 0; sorts <= 4; sorts++) {
            for (int labels = 1; labels <= 4; labels++) {
                TypedBlocks x = Due.laid("s0;".repeat(sorts) + "l1111,,0;".repeat(labels));
                int was = 1;
                for (int type : new int[] {MIN, -1, 0, 1, 2, 3, 4, 5, 6, 7, 8, 9, 10, 11, 18, MAX}) {
                    boolean is = type >= 0 && (type < 2 + sorts && type < 6 || type >= 6 && type < 6 + labels);
                    DUE.due("want(0, 2, " + type + ") of " + sorts + ", " + labels, x.want(0, 2, type), is ? was : BAD);
                    was = is ? type : was;
                    DUE.due("label(0, 2)", x.label(0, 2), was);
                }
            }
        }
    }

    private static void registersOfWant() {
        DUE.part("12: a LABEL WANTS another TYPE in a REGISTER (0 to 3); BAD");
        for (int r : FAR) {
            TypedBlocks x = Due.laid("l0000,,0;l0000,111,0;l0000,,0;");
            DUE.due("want(1, " + r + ", 1)", x.want(1, r, 1), r >= 0 && r <= 3 ? 0 : BAD);
            for (int l = 0; l < 3; l++) {
                for (int q = 0; q < 4; q++) {
                    DUE.due("label(" + l + ", " + q + ")", x.label(l, q), l == 1 && q == r ? 1 : 0);
                }
            }
            DUE.due("label(1, 4)", x.label(1, 4), 3);
            DUE.due("want(" + r + ", 0, 6)", x.want(r, 0, 6), r == 0 || r == 2 || r == 1 ? 0 : BAD);
        }
    }

    private static void wantThatIsSo() {
        DUE.part("12: NO: it is so");
        for (int type = 0; type <= 9; type++) {
            TypedBlocks x = Due.laid("s0;s0;s0;s0;l000" + type + ",,0;" + BLOCK + BLOCK + BLOCK);
            DUE.due("want(0, 3, " + type + ")", x.want(0, 3, type), NO);
            DUE.due("want(0, 3, another)", x.want(0, 3, (type + 1) % 10), type);
            DUE.due("want(0, 3, as before)", x.want(0, 3, type), (type + 1) % 10);
            DUE.due("count(4)", x.count(4), 2);
        }
        TWINS.sameAnywhere("want that is so", x -> x.want(0, 2, 1), NO);
        TWINS.sameAnywhere("want that is so", x -> x.want(1, 3, 8), NO);
    }

    private static void refusedWant() {
        DUE.part("12: BAD. Nothing changes then");
        int[][] wrong = {{-1, 0, 0}, {3, 0, 0}, {0, -1, 0}, {0, 4, 0}, {0, 0, -1}, {0, 0, 4}, {0, 0, 5}, {0, 0, 9},
            {0, 0, 10}, {MIN, MIN, MIN}, {MAX, MAX, MAX}};
        for (int[] w : wrong) {
            TWINS.sameAnywhere("want" + Arrays.toString(w), x -> x.want(w[0], w[1], w[2]), BAD);
        }
    }

    private static void nothingOrAnything() {
        DUE.part("13: Anything may be below (1), or nothing (0). BAD; NO: it is so; else 1");
        for (int now = 0; now <= 1; now++) {
            for (int any : new int[] {MIN, -1, 0, 1, 2, 3, MAX}) {
                TypedBlocks x = Due.laid("l0000,,0;l0000,11," + now + ";l0000,,1;");
                boolean is = any == 0 || any == 1;
                DUE.due("below(1, " + any + ")", x.below(1, any), !is ? BAD : any == now ? NO : 1);
                DUE.due("label(1, 8)", x.label(1, 8), is ? any : now);
                DUE.due("label(0, 8)", x.label(0, 8), 0);
                DUE.due("label(2, 8)", x.label(2, 8), 1);
                DUE.due("count(4)", x.count(4), is && any != now ? 1 : 0);
            }
        }
        for (int l : FAR) {
            DUE.due("below(" + l + ", 1)", Due.laid(BLOCK + BLOCK).below(l, 1), l == 0 || l == 1 ? 1 : BAD);
        }
    }

    private static void refusedBelow() {
        DUE.part("13: BAD; NO. Nothing changes then");
        int[][] wrong = {{-1, 0}, {3, 1}, {0, -1}, {0, 2}, {MIN, 0}, {0, MAX}};
        for (int[] w : wrong) {
            TWINS.sameAnywhere("below" + Arrays.toString(w), x -> x.below(w[0], w[1]), BAD);
        }
        TWINS.sameAnywhere("below that is so", x -> x.below(1, 1), NO);
        TWINS.same("below that is so", () -> Due.laid(BLOCK), x -> x.below(0, 0), NO);
    }

    private static void nothingToUndo() {
        DUE.part("14: UNDONE: how many more can be. NO");
        TypedBlocks x = new TypedBlocks();
        DUE.due("undo() of none", x.undo(), NO);
        x.cut(0, 0);
        DUE.due("undo() of one", x.undo(), 0);
        DUE.due("undo() of no more", x.undo(), NO);
        DUE.due("label(0, 9)", x.label(0, 9), 5);
    }

    private static void theLastEight() {
        DUE.part("UNDONE are the latest of these (the last 8 can be)");
        for (int acts = 0; acts <= 34; acts++) {
            TypedBlocks x = Due.laid(BLOCK + "i1,0,99,0;");
            for (int i = 0; i < acts; i++) {
                x.put(0, 0, 1, 0, i, 0);
                DUE.due("count(4) behind " + (i + 1), x.count(4), Math.min(8, i + 1));
            }
            int can = Math.min(8, acts);
            for (int i = 1; i <= can; i++) {
                DUE.due("undo() of " + acts, x.undo(), can - i);
                int due = acts - 1 - i;
                DUE.due("code(0, 0, 2)", x.code(0, 0, 2), due < 0 ? 99 : due);
            }
            DUE.due("undo() of no more", x.undo(), NO);
            DUE.due("code(0, 0, 2)", x.code(0, 0, 2), acts <= 8 ? 99 : acts - 9);
            DUE.due("count(4)", x.count(4), 0);
        }
    }

    private static void eachActUndone() {
        DUE.part("PUT OTHERWISE, TAKEN OUT, PUT IN; another TYPE; something else below: UNDONE");
        Twins.Call[] acts = {x -> x.put(0, 2, 4, 1, 1, 3), x -> x.cut(0, 0), x -> x.cut(0, 4), x -> x.add(0, 0, 13, 0, 0, 0),
            x -> x.add(1, 4, 13, 0, 0, 0), x -> x.add(1, 2, 13, 0, 0, 0), x -> x.want(0, 0, 0), x -> x.want(2, 3, 8),
            x -> x.below(0, 1), x -> x.below(1, 0), x -> x.cut(2, 0)};
        String before = Twins.shown(new TypedBlocks());
        for (int i = 0; i < acts.length; i++) {
            TypedBlocks x = new TypedBlocks();
            DUE.holds("act " + i + " is done", acts[i].on(x) >= 0);
            DUE.holds("act " + i + " is seen", !Twins.shown(x).equals(before));
            DUE.due("undo()", x.undo(), 0);
            DUE.holds("act " + i + " is undone", Twins.shown(x).equals(before));
        }
    }

    private static void notUndone() {
        DUE.part("UNDONE are the latest of these (and of nothing else)");
        TypedBlocks x = new TypedBlocks();
        x.cut(0, 0);
        x.put(2, 0, 13, 0, 0, 0);
        x.put(2, 0, 14, 0, 0, 0);
        x.want(0, 0, 1);
        x.below(0, 0);
        x.add(0, 9, 13, 0, 0, 0);
        x.write('s');
        x.wipe();
        x.lay();
        x.keep();
        x.day(5, 20, 0);
        x.mends(0, 0);
        x.might(0, 0);
        x.run(5, 20, 0);
        DUE.due("count(4)", x.count(4), 1);
        DUE.due("undo() of the cut", x.undo(), 0);
        DUE.due("label(0, 9)", x.label(0, 9), 5);
        DUE.due("undo(): what is undone is no act", x.undo(), NO);
        DUE.due("label(0, 9)", x.label(0, 9), 5);
        DUE.due("count(5)", x.count(5), 1);
    }

    private static void refusedUndo() {
        DUE.part("14: NO. Nothing changes then");
        TWINS.same("undo()", TypedBlocks::new, TypedBlocks::undo, NO);
        TWINS.same("undo() of no more, with a text and two kept", () -> {
            TypedBlocks x = Twins.busy();
            for (int i = 0; i < 8; i++) {
                x.undo();
            }
            return x;
        }, TypedBlocks::undo, NO);
    }
}
