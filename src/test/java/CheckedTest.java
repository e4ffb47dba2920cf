/** Promises 15 to 22: check, reason, ahead, sure, joins, might, reached, mends. */
public final class CheckedTest {
    private static final int BAD = TypedBlocks.BAD, NO = TypedBlocks.NO, NONE = TypedBlocks.NONE;
    private static final String HALT = "i13,0,0,0;";
    private static final Due DUE = new Due();

    public static void main(String[] args) {
        words();
        tuples();
        stacks();
        jumps();
        stacksOfJumps();
        highStacksOfJumps();
        codeForCode();
        ends();
        firstOfReasons();
        wrongLabels();
        aheads();
        sures();
        joining();
        mighty();
        reaching();
        mending();
        DUE.finish();
    }

    /** Block 0 is refused at a place for a reason; reason 0: it is sure. */
    private static void refused(String text, int place, int reason) {
        TypedBlocks x = Due.laid(text);
        DUE.due("check(0) of " + text, x.check(0), reason == 0 ? NONE : place);
        DUE.due("reason(0) of " + text, x.reason(0), reason == 0 ? NONE : reason);
        DUE.due("sure() & 1 of " + text, x.sure() & 1, reason == 0 ? 1 : 0);
    }

    private static void words() {
        DUE.part("15, 16 words");
        refused("l1000,,0;" + HALT, 0, 0);
        refused("l0111,,0;" + HALT, 0, 1);
        refused("l6111,,0;" + HALT, 0, 1);
        refused("s0;l2111,,0;" + HALT, 0, 1);
        refused("l1100,,0;i2,0,1,0;" + HALT, 0, 0);
        refused("l1000,,0;i2,0,1,0;" + HALT, 0, 1);
        refused("l0100,,0;i2,0,1,0;" + HALT, 0, 1);
        refused("l1000,,0;i2,0,0,0;i2,2,0,0;" + HALT, 1, 1);
        refused("l0000,,0;i1,0,0,0;" + HALT, 0, 0);
        refused("l0100,,0;i0,0,1,0;" + HALT, 0, 0);
        refused("l0100,,0;i0,1,0,0;i0,0,1,0;" + HALT, 2, 1);
        refused("l0000,,1;i10,0,0,0;" + HALT, 0, 1);
        refused("l1000,,1;i10,0,0,0;" + HALT, 0, 0);
    }

    private static void tuples() {
        DUE.part("15, 16 tuples");
        String sorts = "s0;s10;";
        refused(sorts + "l1111,,0;i3,1,0,0;i4,1,0,0;i5,2,1,0;" + HALT, 0, 0);
        refused(sorts + "l1111,,0;i4,1,0,0;" + HALT, 0, 2);
        refused(sorts + "l1011,,0;i4,1,0,0;" + HALT, 0, 2);
        refused(sorts + "l1611,,0;i4,1,0,0;" + HALT, 0, 2);
        refused(sorts + "l1211,,0;i4,1,0,0;" + HALT, 0, 0);
        refused(sorts + "l1211,,0;i4,1,1,0;" + HALT, 0, 3);
        refused(sorts + "l1211,,0;i4,1,0,1;" + HALT, 0, 4);
        refused(sorts + "l1201,,0;i4,1,0,2;" + HALT, 0, 4);
        refused(sorts + "l1321,,0;i4,1,0,2;i4,1,1,3;" + HALT, 0, 0);
        refused(sorts + "l1321,,0;i4,1,0,3;" + HALT, 0, 4);
        refused(sorts + "l1321,,0;i4,1,2,3;" + HALT, 0, 3);
        refused(sorts + "l1311,,0;i3,2,0,0;i4,1,0,2;" + HALT, 1, 4);
        refused(sorts + "l1311,,0;i3,2,0,0;i4,2,0,0;i4,1,0,2;" + HALT, 0, 0);
        refused(sorts + "l1111,,0;i5,2,1,0;" + HALT, 0, 2);
        refused(sorts + "l1311,,0;i5,2,1,2;" + HALT, 0, 3);
        refused(sorts + "l1311,,0;i5,2,1,1;i2,0,2,0;" + HALT, 0, 0);
        refused(sorts + "l1311,,0;i5,2,1,0;i2,0,2,0;" + HALT, 1, 1);
        refused(sorts + "l1311,,0;i3,1,1,0;i5,2,1,1;" + HALT, 1, 3);
        refused(sorts + "l1311,,0;i3,1,1,0;i4,1,1,0;i5,2,1,1;" + HALT, 0, 0);
        refused(sorts + "l1311,,0;i3,1,1,0;i4,1,1,0;i5,2,1,0;" + HALT, 2, 3);
        // A tuple that is held twice is known to be set just where it was set.
        refused(sorts + "l1111,,0;i3,1,0,0;i0,2,1,0;i4,1,0,0;i5,3,2,0;" + HALT, 3, 3);
        refused("s0;l1111,,0;i3,1,0,0;i9,1,0,0;l1211,,0;" + HALT, 1, 6);
        refused("s0;l1111,,0;i3,1,0,0;i4,1,0,0;i9,1,0,0;l1211,,0;" + HALT, 0, 0);
        refused("s0;l1111,,0;i3,1,0,0;i9,1,0,0;l1011,,0;" + HALT, 0, 0);
        refused("s0;s0;l1311,,0;i9,1,0,0;l1211,,0;" + HALT, 0, 6);
    }

    private static void stacks() {
        DUE.part("15, 16 stacks");
        refused("l1000,,0;i7,1,0,0;" + HALT, 0, 5);
        refused("l1000,,1;i7,1,0,0;" + HALT, 0, 5);
        refused("l1000,0,0;i7,1,0,0;i7,1,0,0;" + HALT, 1, 5);
        refused("l0000,10,0;i7,0,0,0;" + HALT, 0, 0);
        refused("l0000,01,0;i7,0,0,0;" + HALT, 1, 1);
        refused("l0000,01,0;i7,0,0,0;i7,0,0,0;" + HALT, 0, 0);
        refused("l0100,,0;i6,1,0,0;i6,2,0,0;i7,2,0,0;i7,0,0,0;" + HALT, 0, 0);
        refused("l0100,,0;i6,2,0,0;i6,1,0,0;i7,2,0,0;i7,0,0,0;" + HALT, 4, 1);
        String four = "i6,0,0,0;".repeat(4);
        refused("l1000,11,0;" + four + HALT, 0, 0);
        refused("l1000,111,0;" + four + HALT, 3, 5);
        refused("l1000,111,1;i6,0,0,0;i6,0,0,0;i6,0,0,0;i7,0,0,0;i6,0,0,0;" + HALT, 0, 0);
    }

    private static void jumps() {
        DUE.part("15, 16 jumps");
        String[] going = {"i9,1,0,0;", "i8,3,1,0;i12,3,0,0;", "i11,1,1,0;"};
        for (int i = 0; i < going.length; i++) {
            int place = i == 1 ? 1 : 0;
            refused("l1111,,0;" + going[i] + "l1000,,0;" + HALT, place, 0);
            refused("l1111,,0;" + going[i] + "l0000,,0;i1,0,1,0;" + HALT, place, 0);
            refused("l1101,,0;" + going[i] + "l1110,,0;" + HALT, place, 6);
            refused("l1111,,0;" + going[i] + "l1110,1,0;" + HALT, place, 7);
            refused("l1101,,0;" + going[i] + "l1110,1,0;" + HALT, place, 6);
        }
        refused("l1111,,0;i10,0,1,0;" + HALT + "l1100,,0;" + HALT, 0, 0);
        refused("l1011,,0;i10,0,1,0;" + HALT + "l1100,,0;" + HALT, 0, 6);
        refused("l1111,,0;i10,0,1,0;" + HALT + "l1100,,0;i9,0,0,0;", 0, 0);
        refused("l1111,,1;i10,0,1,0;" + HALT + "l1100,,0;" + HALT, 0, 7);
        refused("l1111,,0;i12,0,0,0;", 0, 8);
        refused("l0111,,0;i12,0,0,0;", 0, 8);
        refused("s0;l2111,,0;i12,0,0,0;", 0, 8);
        refused("l6111,,0;i12,0,0,0;", 0, 0);
        // CALL's own code is in register 3 before the jump is looked at.
        refused("l1111,,0;i11,1,2,0;l1118,,0;i12,3,0,0;l1110,,0;" + HALT, 0, 0);
        refused("l1111,,0;i11,1,0,0;l1118,,0;i12,3,0,0;l1110,,0;" + HALT, 0, 6);
        refused("l1111,,0;i11,1,2,0;l1111,,0;" + HALT + "l1110,,0;" + HALT, 0, 6);
    }

    private static void stacksOfJumps() {
        DUE.part("15, 16 stacks of jumps");
        String[] has = {",,0", ",,1", ",1,0", ",1,1", ",11,0", ",10,1", ",01,0"};
        String[] wants = {",,0", ",,1", ",1,0", ",1,1", ",0,0", ",0,1", ",11,0", ",11,1"};
        String[] fit = {"11000000", "01000000", "01111100", "01010100", "01010111", "01010100", "01000100"};
        for (int h = 0; h < has.length; h++) {
            for (int w = 0; w < wants.length; w++) {
                String text = "l1111" + has[h] + ";i9,1,0,0;l1111" + wants[w] + ";" + HALT;
                refused(text, 0, fit[h].charAt(w) == '1' ? 0 : 7);
            }
        }
    }

    private static void highStacksOfJumps() {
        DUE.part("15, 16 high stacks of jumps");
        refused("l1111,111,0;i9,1,0,0;l1111,111,1;" + HALT, 0, 0);
        refused("l1111,111,1;i9,1,0,0;l1111,111,0;" + HALT, 0, 7);
        String push = "i6,0,0,0;i6,0,0,0;i6,0,0,0;";
        refused("l1111,111,0;" + push + "i9,1,0,0;l1111,111,1;" + HALT, 0, 0);
        refused("l1111,111,0;" + push + "i9,1,0,0;l1111,111,0;" + HALT, 3, 7);
        refused("l0111,111,0;" + push + "i9,1,0,0;l0111,111,1;" + HALT, 3, 7);
        refused("l0111,111,0;" + push + "i9,1,0,0;l0111,000,1;" + HALT, 0, 0);
    }

    private static void codeForCode() {
        DUE.part("2 enough, code");
        // Label 1 wants code of 2 in register 0, where code of 3 comes.
        String go = "l1111,,0;i8,0,3,0;i9,1,0,0;l8111,,0;i12,0,0,0;";
        String[] two = {"l1111,,0;", "l1111,,1;", "l1111,1,0;", "l0111,,0;", "l1111,1,1;", "l8111,,0;", "l9111,,0;"};
        String[] three = {"l1111,,0;", "l1111,,1;", "l1111,1,0;", "l0111,,0;", "l1111,1,1;", "l8111,,0;", "l9111,,0;"};
        String[] fit = {"1101000", "0100000", "0110100", "0001000", "0100100", "0001010", "0001001"};
        for (int i = 0; i < two.length; i++) {
            for (int j = 0; j < three.length; j++) {
                refused(go + two[i] + HALT + three[j] + HALT, 1, fit[i].charAt(j) == '1' ? 0 : 6);
            }
        }
        // Within, code is enough for the same alone: code of 2 would be enough for code of 3, yet label 1,
        // that wants the one, is no label 0, that wants the other.
        String alike = "l7111,,0;" + HALT + "l7111,,0;" + HALT;
        refused("l8111,,0;i8,0,0,0;i9,2,0,0;l9111,,0;" + HALT + alike, 1, 6);
        refused("l8111,,0;i8,0,0,0;i9,2,0,0;l8111,,0;" + HALT + alike, 1, 0);
        refused("l0111,,0;i8,0,0,0;i9,2,0,0;l9111,,0;" + HALT + alike, 1, 0);
        // The stack that a label wants may be higher, where the other one leaves open what is below.
        refused(go + "l1111,11,0;" + HALT + "l1111,1,1;" + HALT, 1, 0);
        refused(go + "l1111,111,0;" + HALT + "l1111,1,1;" + HALT, 1, 0);
        refused(go + "l1111,111,0;" + HALT + "l1111,111,1;" + HALT, 1, 0);
        refused(go + "l1111,111,1;" + HALT + "l1111,111,0;" + HALT, 1, 6);
        refused(go + "l1111,1,1;" + HALT + "l1111,11,1;" + HALT, 1, 6);
        refused(go + "l1111,10,1;" + HALT + "l1111,11,1;" + HALT, 1, 6);
        refused(go + "l1111,11,1;" + HALT + "l1111,10,1;" + HALT, 1, 0);
        // On the stack, too.
        refused("l1111,,0;i8,0,3,0;i6,0,0,0;i9,1,0,0;l0111,8,0;" + HALT + "l1111,,0;" + HALT + "l0111,,1;" + HALT, 0, 0);
        refused("l1111,,0;i8,0,3,0;i6,0,0,0;i9,1,0,0;l0111,8,0;" + HALT + "l0111,,0;" + HALT + "l1111,,1;" + HALT, 2, 7);
    }

    private static void ends() {
        DUE.part("15, 16 ends");
        refused("l1111,,0;", 0, 10);
        refused("l1111,,0;i1,0,0,0;", 1, 10);
        refused("l1111,,0;i10,0,0,0;", 1, 10);
        refused("l1111,,0;" + "i1,0,0,0;".repeat(6), 6, 10);
        refused("l1111,,0;" + HALT + "i1,0,0,0;", 1, 9);
        refused("l1111,,0;" + HALT + HALT, 1, 9);
        refused("l1111,,0;i9,0,0,0;" + HALT, 1, 9);
        refused("l1111,,0;i11,1,0,0;" + HALT + "l1110,,0;" + HALT, 1, 9);
        refused("l6111,,0;i12,0,0,0;" + HALT, 1, 9);
        refused("l1111,,0;" + HALT + "i12,0,0,0;", 1, 9);
    }

    private static void firstOfReasons() {
        DUE.part("15, 16 first of several");
        refused("l0111,,0;i2,0,1,0;i7,0,0,0;", 0, 1);
        refused("s0;l1211,,0;i4,1,2,1;" + HALT, 0, 3);
        refused("l0000,,0;i10,0,0,0;", 0, 1);
        refused("l1011,1,0;i10,0,1,0;l1111,,0;" + HALT, 0, 6);
    }

    private static void wrongLabels() {
        DUE.part("15 to 22, wrong");
        TypedBlocks x = new TypedBlocks();
        for (int l : new int[] {-1, 3, 4, Integer.MIN_VALUE, Integer.MAX_VALUE}) {
            DUE.due("check(" + l + ")", x.check(l), BAD);
            DUE.due("reason(" + l + ")", x.reason(l), BAD);
            DUE.due("ahead(" + l + ", 0, 0)", x.ahead(l, 0, 0), BAD);
            DUE.due("joins(" + l + ")", x.joins(l), BAD);
            DUE.due("might(" + l + ", 0)", x.might(l, 0), BAD);
            DUE.due("mends(" + l + ", 0)", x.mends(l, 0), BAD);
        }
        for (int n : new int[] {-1, 11, Integer.MIN_VALUE, Integer.MAX_VALUE}) {
            DUE.due("ahead(0, " + n + ", 0)", x.ahead(0, n, 0), BAD);
            DUE.due("ahead(0, 0, " + n + ")", x.ahead(0, 0, n), BAD);
            DUE.due("might(0, " + n + ")", x.might(0, n), BAD);
            DUE.due("mends(0, " + n + ")", x.mends(0, n), BAD);
        }
        DUE.due("ahead(0, 6, 0)", x.ahead(0, 6, 0), BAD);
        DUE.due("might(0, 4)", x.might(0, 4), BAD);
        DUE.due("mends(0, 2)", x.mends(0, 2), BAD);
    }

    private static void aheads() {
        DUE.part("17 ahead");
        TypedBlocks x = Due.laid("s0;s100;l1210,01,1;i3,3,1,0;i4,3,2,0;i4,3,0,1;i6,3,0,0;i7,0,0,0;i12,0,0,0;");
        int[][] due = {
            {1, 2, 1, 0, 2, 0, 1, NONE}, {1, 2, 1, 18, 2, 0, 1, NONE}, {1, 2, 1, 22, 2, 0, 1, NONE},
            {1, 2, 1, 23, 2, 0, 1, NONE}, {1, 2, 1, 23, 3, 23, 0, 1}, {23, 2, 1, 23, 2, 0, 1, NONE}};
        for (int k = 0; k < due.length; k++) {
            for (int what = 0; what < 8; what++) {
                DUE.due("ahead(0, " + k + ", " + what + ")", x.ahead(0, k, what), due[k][what]);
            }
            DUE.due("ahead(0, " + k + ", 10)", x.ahead(0, k, 10), NONE);
        }
        for (int what = 0; what < 11; what++) {
            DUE.due("ahead(0, 6, " + what + ") behind what is refused", x.ahead(0, 6, what), NONE);
        }
        DUE.due("ahead(0, 6, 11)", x.ahead(0, 6, 11), BAD);
        DUE.due("ahead(0, 7, 0)", x.ahead(0, 7, 0), BAD);
        // The end, where it is refused just there; and where the block has ended.
        TypedBlocks y = Due.laid("l0000,,0;i1,0,0,0;l1116,,0;i11,1,0,0;" + HALT + "l0000,,0;");
        DUE.due("ahead(0, 1, 0)", y.ahead(0, 1, 0), 1);
        DUE.due("ahead(1, 0, 3)", y.ahead(1, 0, 3), 6);
        DUE.due("ahead(1, 1, 3)", y.ahead(1, 1, 3), 6);
        DUE.due("ahead(1, 2, 3)", y.ahead(1, 2, 3), NONE);
        DUE.due("ahead(2, 0, 4)", y.ahead(2, 0, 4), 0);
        DUE.due("ahead(2, 1, 0)", y.ahead(2, 1, 0), BAD);
        TypedBlocks full = Due.laid("l1678,111,1;i6,1,0,0;i6,2,0,0;i6,3,0,0;" + HALT + "l0000,,1;l0000,,1;");
        int[] stack = {6, 8, 7, 6, 1, 1, 1};
        for (int i = 0; i < stack.length; i++) {
            DUE.due("ahead(0, 3, " + (4 + i) + ")", full.ahead(0, 3, 4 + i), stack[i]);
        }
        TypedBlocks whole = Due.laid("s0;l1000,,1;i3,1,0,0;i4,1,0,0;" + HALT);
        DUE.due("ahead(0, 1, 1)", whole.ahead(0, 1, 1), 10);
        DUE.due("ahead(0, 2, 1)", whole.ahead(0, 2, 1), 2);
        TypedBlocks fourth = Due.laid("s0;s0;s0;s000;l1000,,1;i3,1,3,0;i4,1,0,0;i4,1,1,0;i4,1,2,0;" + HALT);
        int[] types = {0, 34, 35, 37, 5};
        for (int k = 0; k < types.length; k++) {
            DUE.due("ahead(0, " + k + ", 1)", fourth.ahead(0, k, 1), types[k]);
        }
    }

    private static void sures() {
        DUE.part("18 sure");
        DUE.due("sure()", new TypedBlocks().sure(), 7);
        TypedBlocks x = Due.laid("l1000,,0;" + HALT + "l0000,,0;" + HALT + "l1000,,0;l1000,,0;" + HALT);
        DUE.due("sure()", x.sure(), 9);
        DUE.due("count(3)", x.count(3), 2);
        x.want(0, 0, 0);
        x.add(2, 0, 13, 0, 0, 0);
        DUE.due("sure()", x.sure(), 12);
        DUE.due("sure() of none", Due.laid("l0000,,0;").sure(), 0);
    }

    private static void joining() {
        DUE.part("19 joins");
        TypedBlocks x = new TypedBlocks();
        DUE.due("joins(0)", x.joins(0), 5);
        DUE.due("joins(1)", x.joins(1), 6);
        DUE.due("joins(2)", x.joins(2), 4);
        TypedBlocks y = Due.laid("l7000,,0;l1000,,0;l9000,,0;l0000,,0;");
        // Code of 3, which wants less than 1, is enough for code of 1, not the other way.
        DUE.due("joins(0)", y.joins(0), 9);
        DUE.due("joins(1)", y.joins(1), 10);
        DUE.due("joins(2)", y.joins(2), 13);
        DUE.due("joins(3)", y.joins(3), 8);
        TypedBlocks s = Due.laid("l0000,,0;l0000,,1;l0000,1,0;l0000,0,1;");
        DUE.due("joins(0)", s.joins(0), 3);
        DUE.due("joins(1)", s.joins(1), 2);
        DUE.due("joins(2)", s.joins(2), 14);
        DUE.due("joins(3)", s.joins(3), 10);
    }

    private static void mighty() {
        DUE.part("20 might");
        TypedBlocks x = new TypedBlocks();
        DUE.due("might(0, 0)", x.might(0, 0), 2);
        DUE.due("might(0, 3)", x.might(0, 3), 463);
        DUE.due("might(1, 3)", x.might(1, 3), 256);
        DUE.due("might(2, 3)", x.might(2, 3), 257);
        DUE.due("label(2, 3)", x.label(2, 3), 0);
        DUE.due("count(4)", x.count(4), 0);
        TypedBlocks y = Due.laid("l0000,,0;" + HALT);
        DUE.due("might(0, 0) mends", y.might(0, 0), 2);
        DUE.due("might(0, 1) does not", y.might(0, 1), 0);
        TypedBlocks all = Due.laid("s0;s0;s0;s0;l1000,,1;" + HALT + "l1000,,1;" + HALT + "l1000,,1;" + HALT
            + "l1000,,1;" + HALT);
        DUE.due("might(3, 3)", all.might(3, 3), 1023);
        DUE.due("might(3, 0)", all.might(3, 0), 2);
        TypedBlocks bare = Due.laid("l1000,,1;" + HALT);
        DUE.due("might(0, 3)", bare.might(0, 3), 67);
    }

    private static void reaching() {
        DUE.part("21 reached");
        DUE.due("reached()", new TypedBlocks().reached(), 7);
        String rest = "l0000,,1;l0000,,1;l0000,,1;";
        DUE.due("reached() of none", Due.laid("l0000,,1;" + rest).reached(), 1);
        DUE.due("reached() by JUMP", Due.laid("l0000,,1;i9,2,0,0;" + rest).reached(), 5);
        DUE.due("reached() by IF", Due.laid("l0000,,1;i10,1,3,0;" + rest).reached(), 9);
        DUE.due("reached() by CALL", Due.laid("l0000,,1;i11,1,3,0;" + rest).reached(), 11);
        DUE.due("reached() by LABEL", Due.laid("l0000,,1;i8,3,2,0;" + rest).reached(), 5);
        DUE.due("reached() not by others", Due.laid("l0000,,1;i1,3,2,0;i0,1,2,0;i12,3,0,0;" + rest).reached(), 1);
        DUE.due("reached() not by what is wanted", Due.laid("l7890,,1;" + rest).reached(), 1);
        DUE.due("reached() backwards", Due.laid("l0000,,1;i9,3,0,0;l0000,,1;l0000,,1;i9,1,0,0;l0000,,1;i9,2,0,0;")
            .reached(), 15);
        DUE.due("reached() from 0 alone", Due.laid("l0000,,1;l0000,,1;i9,2,0,0;l0000,,1;i9,0,0,0;").reached(), 1);
        DUE.due("reached() behind an end", Due.laid("l0000,,1;i13,0,0,0;i9,1,0,0;l0000,,1;").reached(), 3);
    }

    private static void mending() {
        DUE.part("22 mends");
        TypedBlocks x = new TypedBlocks();
        DUE.due("mends(0, 0) of a sure one", x.mends(0, 0), NO);
        x.put(0, 2, 0, 1, 2, 0);
        DUE.due("mends(0, 0)", x.mends(0, 0), 5);
        DUE.due("mends(0, 1)", x.mends(0, 1), 608);
        DUE.due("code(0, 4, 0)", x.code(0, 4, 0), 11);
        x.cut(0, 4);
        DUE.due("mends(0, 0), refused at its end", x.mends(0, 0), NO);
        DUE.due("mends(0, 1), refused at its end", x.mends(0, 1), NO);
        TypedBlocks y = Due.laid("l1000,,0;" + HALT + HALT);
        DUE.due("mends(0, 0) behind an end", y.mends(0, 0), 0);
        DUE.due("mends(0, 1) behind an end", y.mends(0, 1), NONE);
        // One label: LABEL, JUMP, IF, CALL of 0 alone, no sort; HALT behind it.
        TypedBlocks z = Due.laid("l1000,,0;i12,1,0,0;" + HALT);
        // MOVE d, a: 12 and 0, 0; SET: 4; ADD 0, 0; PUSH: 4; LABEL 1 to 3; IF 0, 0.
        DUE.due("mends(0, 0)", z.mends(0, 0), 13 + 4 + 1 + 4 + 3 + 1);
        DUE.due("mends(0, 1)", z.mends(0, 1), 0);
        TypedBlocks set = Due.laid("l0000,,0;i2,0,0,0;" + HALT);
        DUE.due("mends(0, 0), SET 0 alone", set.mends(0, 0), 1);
        DUE.due("mends(0, 1), SET 0 alone", set.mends(0, 1), 64);
        TypedBlocks get = Due.laid("s0;s01;l0333,,1;i2,0,0,0;" + HALT);
        // SET 0, or GET 0 from 1, 2, 3 of field 0.
        DUE.due("mends(0, 0), GET", get.mends(0, 0), 4);
        TypedBlocks code = Due.laid("s0;l0002,,1;i6,0,0,0;i2,0,0,0;i13,0,0,0;");
        DUE.due("mends(0, 1), SET", code.mends(0, 1), 64);
        DUE.due("mends(0, 0), SET or GET", code.mends(0, 0), 2);
        TypedBlocks last = Due.laid("l9000,,0;i7,0,0,0;l0000,,0;l0000,,0;l0000,,0;");
        // JUMP to any, CALL of any two, BACK 0.
        DUE.due("mends(0, 0), ends", last.mends(0, 0), 4 + 16 + 1);
        DUE.due("mends(0, 1), ends", last.mends(0, 1), 9 * 64);
    }
}
