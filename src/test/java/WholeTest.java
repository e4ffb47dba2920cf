import java.util.Random;

/** 'What it is', and what the document says of the class as a whole. */
public final class WholeTest {
    private static final int BAD = -1, NO = -2, FULL = -3, NONE = -4;
    private static final int STUCK = 2;
    private static final int[] GOING_ON = {0, 1, 2, 3, 4, 5, 6, 7, 8, 10}, ENDS = {9, 11, 12, 13};
    private static final Due DUE = new Due();

    public static void main(String[] args) {
        checkedAlone();
        checkedCodeIsNeverStuck();
        noneThatIsTold();
        refusalsAsThingsStand();
        ofSeveralTheFirst();
        DUE.finish();
    }

    /** Another block's instructions do not matter, only what the labels want. */
    private static void checkedAlone() {
        DUE.part("each is checked alone");
        for (int l = 0; l < 3; l++) {
            TypedBlocks x = new TypedBlocks();
            for (int other = 0; other < 3; other++) {
                if (other != l) {
                    while (x.label(other, 9) > 0) {
                        x.cut(other, 0);
                    }
                }
            }
            DUE.due("check(" + l + ")", x.check(l), NONE);
            DUE.due("reason(" + l + ")", x.reason(l), NONE);
            DUE.due("sure()", x.sure(), 1 << l);
            for (int r = 0; r < 4; r++) {
                DUE.due("ahead(" + l + ", 0, " + r + ")", x.ahead(l, 0, r), x.label(l, r));
            }
        }
        // A block that jumps to one that is refused is sure.
        TypedBlocks x = Due.laid("l1000,,0;i9,1,0,0;l1000,,0;i7,0,0,0;i13,0,0,0;");
        DUE.due("check(0)", x.check(0), NONE);
        DUE.due("check(1)", x.check(1), 0);
        DUE.due("check(2)", x.check(2), BAD);
    }

    /** Programs drawn instruction by instruction, so that none is refused. */
    private static void checkedCodeIsNeverStuck() {
        DUE.part("checked code never jumps to data, nor reads a field that nobody set");
        Random random = new Random(1);
        int sure = 0;
        for (int drawn = 0; drawn < 12000; drawn++) {
            TypedBlocks x = Due.laid("s0;s10;" + label(random) + label(random));
            for (int l = 0; l < 2; l++) {
                for (int many = random.nextInt(5); many > 0; many--) {
                    grow(x, l, random, GOING_ON);
                }
                grow(x, l, random, ENDS);
            }
            if (x.sure() == 3) {
                sure++;
                for (int w = 0; w < 3; w++) {
                    DUE.holds("run(" + w + ", 200, 0) is not STUCK", x.run(w, 200, 0) != STUCK);
                }
            }
        }
        DUE.holds("enough are sure: " + sure, sure > 2000);
    }

    private static String label(Random random) {
        StringBuilder text = new StringBuilder("l");
        for (int r = 0; r < 4; r++) {
            text.append("0112367".charAt(random.nextInt(7)));
        }
        text.append(',').append(random.nextBoolean() ? "" : random.nextBoolean() ? "1" : "2");
        return text.append(',').append(random.nextInt(2)).append(';').toString();
    }

    /** An instruction more, of these kinds, if one of some that are drawn is not refused. */
    private static void grow(TypedBlocks x, int l, Random random, int[] kinds) {
        for (int tries = 0; tries < 10; tries++) {
            int k = x.label(l, 9);
            int c = kinds[random.nextInt(kinds.length)];
            x.add(l, k, c, operand(random, c, 0), operand(random, c, 1), operand(random, c, 2));
            if (x.check(l) != k) {
                return;
            }
            x.cut(l, k);
        }
    }

    private static int operand(Random random, int c, int p) {
        return random.nextInt(Operands.most(c, p, 2, 2) + 1);
    }

    /** The first program has 2 sorts, and 3 labels of 5, 4 and 1 instructions. */
    private static void noneThatIsTold() {
        DUE.part("BAD: a number is none that is told (LABELS, SORTS, INSTRUCTIONS of a LABEL: such as there are)");
        for (int l : new int[] {Integer.MIN_VALUE, -1, 3, 4, Integer.MAX_VALUE}) {
            TypedBlocks x = new TypedBlocks();
            int[] answers = {x.label(l, 0), x.code(l, 0, 0), x.put(l, 0, 13, 0, 0, 0), x.add(l, 0, 13, 0, 0, 0), x.cut(l, 0),
                x.want(l, 0, 0), x.below(l, 0), x.below(l, 1), x.check(l), x.reason(l), x.ahead(l, 0, 0), x.joins(l),
                x.might(l, 0), x.mends(l, 0), x.put(0, 0, 9, l, 0, 0), x.put(0, 0, 8, 0, l, 0), x.put(0, 0, 10, 0, l, 0),
                x.put(0, 0, 11, l, 0, 0), x.put(0, 0, 11, 0, l, 0), x.add(2, 0, 9, l, 0, 0)};
            for (int i = 0; i < answers.length; i++) {
                DUE.due("label " + l + ", the " + i + "-th call", answers[i], BAD);
            }
        }
        for (int t : new int[] {Integer.MIN_VALUE, -1, 2, 3, 4, Integer.MAX_VALUE}) {
            TypedBlocks x = new TypedBlocks();
            int[] answers = {x.sort(t, -1), x.sort(t, 0), x.put(0, 1, 3, 0, t, 0), x.add(0, 0, 3, 0, t, 0)};
            for (int i = 0; i < answers.length; i++) {
                DUE.due("sort " + t + ", the " + i + "-th call", answers[i], BAD);
            }
        }
        int[] sizes = {5, 4, 1};
        for (int l = 0; l < sizes.length; l++) {
            for (int k : new int[] {Integer.MIN_VALUE, -1, sizes[l], sizes[l] + 1, 6, Integer.MAX_VALUE}) {
                TypedBlocks x = new TypedBlocks();
                int[] answers = {x.code(l, k, 0), x.put(l, k, 6, 2, 0, 0), x.cut(l, k)};
                for (int i = 0; i < answers.length; i++) {
                    DUE.due("instruction " + k + " of " + l + ", the " + i + "-th call", answers[i], BAD);
                }
            }
        }
        for (int type : new int[] {-1, 4, 5, 9, 10}) {
            DUE.due("want(0, 0, " + type + ")", new TypedBlocks().want(0, 0, type), BAD);
        }
    }

    private static void refusalsAsThingsStand() {
        DUE.part("NO: not as things stand. NONE: there is none. FULL");
        TypedBlocks x = new TypedBlocks();
        DUE.due("lay() of nothing", x.lay(), NO);
        DUE.due("undo()", x.undo(), NO);
        DUE.due("back()", x.back(), NO);
        DUE.due("put that is so", x.put(2, 0, 13, 0, 0, 0), NO);
        DUE.due("want that is so", x.want(0, 0, 1), NO);
        DUE.due("below that is so", x.below(0, 0), NO);
        DUE.due("mends of a sure block", x.mends(0, 0), NO);
        DUE.due("fault() of nothing", x.fault(), NONE);
        DUE.due("check(0)", x.check(0), NONE);
        DUE.due("reason(0)", x.reason(0), NONE);
        DUE.due("ahead(0, 0, 5)", x.ahead(0, 0, 5), NONE);
        x.add(2, 1, 13, 0, 0, 0);
        DUE.due("mends(2, 1)", x.mends(2, 1), NONE);
        x.want(0, 0, 6);
        DUE.due("run(0, 0, 4)", x.run(0, 0, 4), NONE);
        x.keep();
        x.keep();
        DUE.due("keep()", x.keep(), FULL);
        while (x.label(2, 9) < 6) {
            x.add(2, 0, 6, 0, 0, 0);
        }
        DUE.due("add to six", x.add(2, 0, 6, 0, 0, 0), FULL);
        while (x.count(6) < 200) {
            x.write(' ');
        }
        DUE.due("write behind 200", x.write(' '), FULL);
    }

    /** BAD and another refusal would both hold. */
    private static void ofSeveralTheFirst() {
        DUE.part("Of several the first");
        TypedBlocks x = new TypedBlocks();
        DUE.due("mends(0, 2) of a sure block", x.mends(0, 2), BAD);
        DUE.due("mends(0, -1) of a sure block", x.mends(0, -1), BAD);
        DUE.due("ahead(0, 0, 11), there are not so many", x.ahead(0, 0, 11), BAD);
        DUE.due("ahead(0, 6, 10), there are not so many", x.ahead(0, 6, 10), BAD);
        x.add(0, 5, 6, 0, 0, 0);
        DUE.due("add(0, 7, ..) to six", x.add(0, 7, 6, 0, 0, 0), BAD);
        DUE.due("add(0, 0, 14, ..) to six", x.add(0, 0, 14, 0, 0, 0), BAD);
        DUE.due("add(0, 0, 6, 4, ..) to six", x.add(0, 0, 6, 4, 0, 0), BAD);
        while (x.count(6) < 200) {
            x.write(' ');
        }
        DUE.due("write(31) behind 200", x.write(31), BAD);
        x.cut(2, 0);
        DUE.due("mends(2, 2) of one without an end", x.mends(2, 2), BAD);
    }
}
