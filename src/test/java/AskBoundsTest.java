/** Part 3 of the document, and promises 17 to 22: a test for each sentence that names a bound. */
public final class AskBoundsTest {
    private static final int BAD = TypedBlocks.BAD, NO = TypedBlocks.NO, NONE = TypedBlocks.NONE;
    private static final int MIN = Integer.MIN_VALUE, MAX = Integer.MAX_VALUE;
    private static final int[] FAR = {MIN, -1, 0, 1, 2, 3, 4, 5, MAX};
    private static final String HALT = "i13,0,0,0;", BLOCK = "l1000,,1;", SET = "i1,0,0,0;";
    private static final Due DUE = new Due();
    private static final Twins TWINS = new Twins(DUE);

    public static void main(String[] args) {
        aheadOfWhich();
        aheadOfWhichLabel();
        notBehindTheRefused();
        aheadOfTheEnd();
        aheadBehindAnEnd();
        whatIsAhead();
        howHighAhead();
        tuplesAhead();
        badAheadOfNone();
        sureBits();
        joinsOfWhich();
        joinsBits();
        mightOfWhich();
        mightOfTypesThatThereAre();
        mightOfAllBlocks();
        reachedFromLabel0();
        reachedByWhich();
        mendsOfWhich();
        mendsNo();
        mendsNone();
        mendsFirstAndLast();
        mendsAsMayBeTold();
        askedAgainBehindAnAct();
        askingChangesNothing();
        DUE.finish();
    }

    private static void aheadOfWhich() {
        DUE.part("17: BAD (k below 0, above how many there are, too)");
        for (int many = 0; many <= 6; many++) {
            TypedBlocks x = Due.laid(BLOCK + SET.repeat(6) + BLOCK + SET.repeat(many) + BLOCK + SET.repeat(6));
            for (int k : new int[] {MIN, -2, -1, 0, 1, 2, 3, 4, 5, 6, 7, 8, MAX}) {
                DUE.due("ahead(1, " + k + ", 0) of " + many, x.ahead(1, k, 0), k >= 0 && k <= many ? 1 : BAD);
            }
        }
    }

    private static void aheadOfWhichLabel() {
        DUE.part("17: BAD (LABELS: such as there are)");
        for (int labels = 1; labels <= 4; labels++) {
            TypedBlocks x = Due.laid(BLOCK.repeat(labels));
            for (int l : FAR) {
                DUE.due("ahead(" + l + ", 0, 0)", x.ahead(l, 0, 0), l >= 0 && l < labels ? 1 : BAD);
            }
        }
    }

    private static void notBehindTheRefused() {
        DUE.part("AHEAD of an INSTRUCTION (that is not behind the first REFUSED one); NONE (behind what is REFUSED)");
        for (int at = 0; at < 6; at++) {
            TypedBlocks x = Due.laid(BLOCK + SET.repeat(at) + "i12,1,0,0;" + SET.repeat(5 - at));
            for (int k = 0; k <= 6; k++) {
                DUE.due("ahead(0, " + k + ", 0), refused at " + at, x.ahead(0, k, 0), k <= at ? 1 : NONE);
                DUE.due("ahead(0, " + k + ", 4), refused at " + at, x.ahead(0, k, 4), k <= at ? 0 : NONE);
                DUE.due("ahead(0, " + k + ", 5), refused at " + at, x.ahead(0, k, 5), NONE);
            }
        }
    }

    private static void aheadOfTheEnd() {
        DUE.part("AHEAD of .. its end, if none is REFUSED ahead");
        for (int many = 0; many <= 6; many++) {
            TypedBlocks x = Due.laid("l0000,,1;" + SET.repeat(many));
            DUE.due("ahead(0, " + many + ", 0), refused at the end", x.ahead(0, many, 0), many == 0 ? 0 : 1);
            if (many < 6) {
                TypedBlocks y = Due.laid("l1000,,1;" + SET.repeat(many) + HALT);
                DUE.due("ahead(0, " + (many + 1) + ", 0), sure", y.ahead(0, many + 1, 0), 1);
                TypedBlocks z = Due.laid("l0000,,1;" + "i0,0,0,0;".repeat(many) + HALT);
                DUE.due("ahead(0, " + (many + 1) + ", 0), the last refused", z.ahead(0, many + 1, 0), NONE);
                DUE.due("ahead(0, " + many + ", 0), the last refused", z.ahead(0, many, 0), 0);
            }
        }
    }

    private static void aheadBehindAnEnd() {
        DUE.part("AHEAD of the first REFUSED one, where that is behind the block's end (9)");
        TypedBlocks x = Due.laid("l1110,,1;i11,1,0,0;" + HALT + HALT + "l1110,,1;" + HALT);
        DUE.due("ahead(0, 0, 3)", x.ahead(0, 0, 3), 0);
        DUE.due("ahead(0, 1, 3)", x.ahead(0, 1, 3), 6);
        DUE.due("ahead(0, 2, 3)", x.ahead(0, 2, 3), NONE);
        DUE.due("ahead(0, 3, 3)", x.ahead(0, 3, 3), NONE);
        DUE.due("ahead(0, 4, 3)", x.ahead(0, 4, 3), BAD);
    }

    private static void whatIsAhead() {
        DUE.part("17: a REGISTER (what = 0 to 3), how many on the STACK (4), which (5 to 10); BAD");
        TypedBlocks x = Due.laid("s0;l0126,621,0;i6,0,0,0;i6,1,0,0;i6,2,0,0;");
        int[] due = {0, 1, 2, 6, 6, 2, 1, 0, 6, 2, 1};
        for (int what = 0; what < due.length; what++) {
            DUE.due("ahead(0, 3, " + what + ")", x.ahead(0, 3, what), due[what]);
        }
        for (int what : new int[] {MIN, -2, -1, 11, 12, MAX}) {
            DUE.due("ahead(0, 3, " + what + ")", x.ahead(0, 3, what), BAD);
        }
    }

    private static void howHighAhead() {
        DUE.part("17: how many TYPES the STACK is known to have; NONE (there are not so many)");
        for (int height = 0; height <= 6; height++) {
            int told = Math.min(3, height);
            for (int below = 0; below < 2; below++) {
                TypedBlocks x = Due.laid("l1000," + "111".substring(3 - told) + "," + below + ";"
                    + "i6,0,0,0;".repeat(height - told) + HALT);
                int k = height - told;
                DUE.due("ahead(0, " + k + ", 4)", x.ahead(0, k, 4), height);
                for (int i = 0; i < 6; i++) {
                    DUE.due("ahead(0, " + k + ", " + (5 + i) + ")", x.ahead(0, k, 5 + i), i < height ? 1 : NONE);
                }
            }
        }
    }

    private static void tuplesAhead() {
        DUE.part("Of a TUPLE not whole 10, 8 times the SORT, and its FIELDS that are set (bits), together");
        for (int t = 0; t < 4; t++) {
            for (int set = 0; set < 8; set++) {
                StringBuilder puts = new StringBuilder();
                for (int f = 0; f < 3; f++) {
                    puts.append((set >> f & 1) == 1 ? "i4,1," + f + ",0;" : "");
                }
                TypedBlocks x = Due.laid("s000;s000;s000;s000;l1000,,0;i3,1," + t + ",0;" + puts + "i6,1,0,0;");
                int k = 1 + Integer.bitCount(set);
                int due = set == 7 ? 2 + t : 10 + 8 * t + set;
                DUE.due("ahead(0, " + k + ", 1)", x.ahead(0, k, 1), due);
                DUE.due("ahead(0, " + (k + 1) + ", 5)", x.ahead(0, k + 1, 5), due);
            }
        }
    }

    private static void badAheadOfNone() {
        DUE.part("17: BAD and NONE: of several the first of BAD, NO, NONE, FULL");
        TypedBlocks x = Due.laid("l0000,,0;" + HALT + SET);
        DUE.due("ahead(0, 2, 0)", x.ahead(0, 2, 0), NONE);
        DUE.due("ahead(0, 2, 11)", x.ahead(0, 2, 11), BAD);
        DUE.due("ahead(0, 2, -1)", x.ahead(0, 2, -1), BAD);
        DUE.due("ahead(0, 3, 5)", x.ahead(0, 3, 5), BAD);
        DUE.due("ahead(1, 2, 5)", x.ahead(1, 2, 5), BAD);
    }

    private static void sureBits() {
        DUE.part("SURE: LABELS (bits) whose blocks are CHECKED without being REFUSED");
        for (int labels = 1; labels <= 4; labels++) {
            for (int bits = 0; bits < 1 << labels; bits++) {
                StringBuilder text = new StringBuilder();
                for (int l = 0; l < labels; l++) {
                    text.append(BLOCK).append((bits >> l & 1) == 1 ? HALT : "");
                }
                TypedBlocks x = Due.laid(text.toString());
                DUE.due("sure() of " + text, x.sure(), bits);
                DUE.due("count(3) of " + text, x.count(3), Integer.bitCount(bits));
            }
        }
    }

    private static void joinsOfWhich() {
        DUE.part("19: JOINS, as bits. BAD");
        for (int labels = 1; labels <= 4; labels++) {
            TypedBlocks x = Due.laid(BLOCK.repeat(labels));
            for (int l : FAR) {
                DUE.due("joins(" + l + ")", x.joins(l), l >= 0 && l < labels ? (1 << labels) - 1 : BAD);
            }
        }
    }

    private static void joinsBits() {
        DUE.part("JOINS of a LABEL: those (bits) for which what it wants is ENOUGH");
        TypedBlocks alone = Due.laid("l0000,,0;l0000,0,0;l0000,00,0;l0000,000,0;");
        TypedBlocks less = Due.laid("l1111,111,0;l1111,11,1;l1111,1,1;l1111,,1;");
        TypedBlocks code = Due.laid("l8000,,0;l9000,,0;l1000,,0;l0000,,0;");
        int[] lessDue = {15, 14, 12, 8};
        // Code of 3, which wants less, is enough for code of 2; what is wanted is enough for ANY.
        int[] codeDue = {9, 11, 12, 8};
        for (int l = 0; l < 4; l++) {
            DUE.due("joins(" + l + ") of itself", alone.joins(l), 1 << l);
            DUE.due("joins(" + l + ") of less", less.joins(l), lessDue[l]);
            DUE.due("joins(" + l + ") of code", code.joins(l), codeDue[l]);
        }
        // Whether the blocks are sure is not asked for.
        DUE.due("sure()", less.sure(), 0);
    }

    private static void mightOfWhich() {
        DUE.part("20: MIGHT of a LABEL and a REGISTER (0 to 3); BAD");
        for (int labels = 1; labels <= 4; labels++) {
            TypedBlocks x = Due.laid((BLOCK + HALT).repeat(labels));
            int all = 3 | ((1 << labels) - 1) << 6;
            for (int l : FAR) {
                for (int r : FAR) {
                    boolean is = l >= 0 && l < labels && r >= 0 && r <= 3;
                    DUE.due("might(" + l + ", " + r + ")", x.might(l, r), !is ? BAD : r == 0 ? 2 : all);
                }
            }
        }
    }

    private static void mightOfTypesThatThereAre() {
        DUE.part("MIGHT: TYPES (bits of 0 to 9; of SORTS and LABELS that there are)");
        for (int sorts = 0; sorts <= 4; sorts++) {
            for (int labels = 1; labels <= 4; labels++) {
                TypedBlocks x = Due.laid("s0;".repeat(sorts) + (BLOCK + HALT).repeat(labels));
                int due = 3 | ((1 << sorts) - 1) << 2 | ((1 << labels) - 1) << 6;
                DUE.due("might(0, 3) of " + sorts + ", " + labels, x.might(0, 3), due);
            }
        }
    }

    private static void mightOfAllBlocks() {
        DUE.part("MIGHT: TYPES by which, WANTED there, all blocks are SURE");
        for (int type = 0; type <= 9; type++) {
            // What is wanted now does not count.
            TypedBlocks x = Due.laid("s0;s0;s0;s0;l" + type + "000,,1;" + HALT + (BLOCK + HALT).repeat(3));
            DUE.due("might(0, 0), wanted " + type, x.might(0, 0), 2);
            DUE.due("label(0, 0)", x.label(0, 0), type);
        }
        TypedBlocks other = Due.laid(BLOCK + HALT + BLOCK);
        DUE.due("might(0, 0), the other is refused", other.might(0, 0), 0);
        DUE.due("might(1, 3), it is refused anyway", other.might(1, 3), 0);
        // Block 1 jumps to label 0, with a word in register 3.
        TypedBlocks jump = Due.laid("s0;" + BLOCK + HALT + "l1001,,1;i9,0,0,0;");
        DUE.due("might(0, 3)", jump.might(0, 3), 3);
        DUE.due("might(1, 3)", jump.might(1, 3), 3 | 4 | 3 << 6);
        // Block 0 jumps to label 1, that wants code of label 3, with code of label 2: which stands for which
        // hangs on what is wanted, too.
        String words = "l1111,,0;" + HALT;
        TypedBlocks code = Due.laid("l1111,,0;i8,0,2,0;i9,1,0,0;l9111,,0;" + SET + HALT + words + words);
        DUE.due("might(2, 1)", code.might(2, 1), 3);
        DUE.due("might(3, 1)", code.might(3, 1), 2);
    }

    private static void reachedFromLabel0() {
        DUE.part("REACHED: LABELS (bits) to which one comes from LABEL 0 on (LABEL 0, too)");
        DUE.due("reached() of one", Due.laid(BLOCK).reached(), 1);
        DUE.due("reached() of itself", Due.laid(BLOCK + "i9,0,0,0;").reached(), 1);
        DUE.due("reached() of none else", Due.laid(BLOCK.repeat(4)).reached(), 1);
        DUE.due("reached() not to 0", Due.laid(BLOCK + (BLOCK + "i9,0,0,0;").repeat(3)).reached(), 1);
        DUE.due("reached() not by those that are not", Due.laid(BLOCK + "i9,2,0,0;" + BLOCK + "i9,3,0,0;" + BLOCK + BLOCK)
            .reached(), 5);
        // What is taken out, the last or all, is no more in the block.
        TypedBlocks cut = Due.laid(BLOCK + "i9,1,0,0;i9,2,0,0;" + BLOCK + BLOCK);
        DUE.due("reached()", cut.reached(), 7);
        cut.cut(0, 1);
        DUE.due("reached() behind a cut", cut.reached(), 3);
        cut.cut(0, 0);
        DUE.due("reached() behind another one", cut.reached(), 1);
        int[][] chains = {{1, 2, 3}, {1, 3, 2}, {2, 1, 3}, {2, 3, 1}, {3, 1, 2}, {3, 2, 1}};
        for (int[] chain : chains) {
            for (int length = 0; length <= 3; length++) {
                int[] to = {-1, -1, -1, -1};
                int from = 0;
                int bits = 1;
                for (int i = 0; i < length; i++) {
                    to[from] = chain[i];
                    from = chain[i];
                    bits |= 1 << from;
                }
                StringBuilder text = new StringBuilder();
                for (int l = 0; l < 4; l++) {
                    text.append(BLOCK).append(to[l] < 0 ? "" : "i9," + to[l] + ",0,0;");
                }
                DUE.due("reached() of " + text, Due.laid(text.toString()).reached(), bits);
            }
        }
    }

    private static void reachedByWhich() {
        DUE.part("REACHED by JUMP, IF, CALL (l, m) and LABEL in their blocks");
        for (int l = 0; l < 4; l++) {
            int due = 1 | 1 << l;
            String[] naming = {"i9," + l + ",0,0;", "i10,0," + l + ",0;", "i11," + l + ",0,0;", "i11,0," + l + ",0;",
                "i8,0," + l + ",0;"};
            for (String told : naming) {
                DUE.due("reached() by " + told, Due.laid(BLOCK + told + BLOCK.repeat(3)).reached(), due);
                DUE.due("reached() by " + told, Due.laid(BLOCK + SET.repeat(5) + told + BLOCK.repeat(3)).reached(), due);
            }
        }
        String others = "i0,1,2,0;i1,3,2,0;i2,1,2,0;i3,3,1,0;i4,1,2,3;i5,1,2,1;";
        DUE.due("reached() by others", Due.laid("s0;s0;" + BLOCK + others + BLOCK.repeat(3)).reached(), 1);
        others = "i6,3,0,0;i7,3,0,0;i12,3,0,0;" + HALT;
        DUE.due("reached() by others", Due.laid("l9876,789,1;" + others + BLOCK.repeat(3)).reached(), 1);
    }

    private static void mendsOfWhich() {
        DUE.part("22: how many (what = 0), the first (1; NONE). BAD");
        for (int labels = 1; labels <= 4; labels++) {
            // HALT alone mends it, or a jump to itself.
            TypedBlocks x = Due.laid("l1111,1,0;i1,0,0,0;i12,0,0,0;".repeat(labels));
            for (int l : FAR) {
                boolean is = l >= 0 && l < labels;
                DUE.due("mends(" + l + ", 1)", x.mends(l, 1), is ? 9 * 64 : BAD);
            }
            for (int what : new int[] {MIN, -1, 2, 3, MAX}) {
                DUE.due("mends(0, " + what + ")", x.mends(0, what), BAD);
                DUE.due("mends(" + labels + ", " + what + ")", x.mends(labels, what), BAD);
            }
        }
    }

    private static void mendsNo() {
        DUE.part("22: NO: it is SURE, or REFUSED at its end");
        for (int what = 0; what < 2; what++) {
            int w = what;
            TWINS.same("mends of a sure one", () -> Due.laid(BLOCK + HALT), x -> x.mends(0, w), NO);
            for (int many = 0; many <= 6; many++) {
                String text = BLOCK + SET.repeat(many);
                TWINS.same("mends, refused at its end", () -> Due.laid(text), x -> x.mends(0, w), NO);
            }
            TWINS.sameAnywhere("mends(3, " + w + ")", x -> x.mends(3, w), BAD);
        }
        // BAD comes first.
        DUE.due("mends(0, 2) of a sure one", Due.laid(BLOCK + HALT).mends(0, 2), BAD);
        DUE.due("mends(0, -1), refused at its end", Due.laid(BLOCK).mends(0, -1), BAD);
        // Refused at the last instruction is not refused at the end.
        DUE.due("mends(0, 1), the last refused", Due.laid("l0000,,1;" + HALT).mends(0, 1), 9 * 64);
    }

    private static void mendsNone() {
        DUE.part("22: MENDS: how many: 0; the first: NONE");
        // Two instructions can not be, and what is behind an end stays behind it.
        String[] texts = {BLOCK + "i12,1,0,0;i4,1,0,0;" + HALT, BLOCK + HALT + HALT, BLOCK + "i12,1,0,0;i1,0,0,0;",
            "l0000,,0;i12,1,0,0;" + "i2,1,1,0;" + HALT, BLOCK + "i7,0,0,0;" + SET.repeat(5)};
        for (String text : texts) {
            TWINS.same("mends(0, 0) of " + text, () -> Due.laid(text), x -> x.mends(0, 0), 0);
            TWINS.same("mends(0, 1) of " + text, () -> Due.laid(text), x -> x.mends(0, 1), NONE);
        }
    }

    private static void mendsFirstAndLast() {
        DUE.part("22: the first (by C, then X, Y, Z): ((C times 4, and X) times 4, and Y) times 4, and Z");
        // MOVE 0, 0 is the very first; HALT the very last, where no jump and no code fits.
        DUE.due("mends(0, 1), MOVE 0, 0", Due.laid(BLOCK + "i12,1,0,0;" + HALT).mends(0, 1), 0);
        TypedBlocks last = Due.laid("l1161,,0;i1,2,0,0;i7,0,0,0;");
        DUE.due("mends(0, 0), HALT alone", last.mends(0, 0), 1);
        DUE.due("mends(0, 1), HALT alone", last.mends(0, 1), 13 * 64);
        // MOVE 0, 3; MOVE 3, 0 comes behind it.
        DUE.due("mends(0, 1), MOVE 0, 3", Due.laid("l0001,,1;i7,0,0,0;" + HALT).mends(0, 1), 3 * 4);
        // Where field 1 is not set yet, PUT 1, 1, 0.
        TypedBlocks put = Due.laid("s00;l1000,,0;i3,1,0,0;i4,1,0,0;i7,0,0,0;i9,1,0,0;l1200,,0;" + HALT);
        DUE.due("mends(0, 0), PUT 1, 1, 0", put.mends(0, 0), 1);
        DUE.due("mends(0, 1), PUT 1, 1, 0", put.mends(0, 1), ((4 * 4 + 1) * 4 + 1) * 4);
        TypedBlocks two = Due.laid("s00;l1000,,0;i3,1,0,0;i4,1,0,0;i7,0,0,0;i5,2,1,1;" + HALT);
        DUE.due("mends(0, 0), PUT 1, 1, 0", two.mends(0, 0), 1);
        DUE.due("mends(0, 1), PUT 1, 1, 0", two.mends(0, 1), ((4 * 4 + 1) * 4 + 1) * 4);
        TypedBlocks third = Due.laid("s00;l1110,,0;i3,3,0,0;i4,3,0,0;i7,0,0,0;i1,0,0,0;i5,2,3,1;" + HALT);
        DUE.due("mends(0, 0), PUT 3, 1, 0 to 2", third.mends(0, 0), 3);
        DUE.due("mends(0, 1), PUT 3, 1, 0", third.mends(0, 1), ((4 * 4 + 3) * 4 + 1) * 4);
    }

    private static void mendsAsMayBeTold() {
        DUE.part("MENDS: C, X, Y, Z as may be told, w 0");
        // Of w just 0 counts, or each SET would count a hundred times.
        TypedBlocks set = Due.laid("l0000,,0;i7,0,0,0;" + HALT);
        DUE.due("mends(0, 0), SET 0, 0", set.mends(0, 0), 1);
        DUE.due("mends(0, 1), SET 0, 0", set.mends(0, 1), 64);
        // NEW of as many sorts as there are, for each of three registers (0 must stay a word).
        for (int sorts = 0; sorts <= 4; sorts++) {
            TypedBlocks x = Due.laid("s0;".repeat(sorts) + "l1000,,0;i12,1,0,0;" + HALT);
            // MOVE d, a: 13; SET: 4; ADD 0, 0; PUSH: 4; LABEL: 3; IF 0, 0.
            DUE.due("mends(0, 0) of " + sorts + " sorts", x.mends(0, 0), 26 + 3 * sorts);
        }
        // LABEL, JUMP, CALL of as many labels as there are.
        for (int labels = 1; labels <= 4; labels++) {
            TypedBlocks x = Due.laid("l0000,,0;i12,1,0,0;" + "l0000,,0;".repeat(labels - 1));
            DUE.due("mends(0, 0) of " + labels + " labels", x.mends(0, 0), labels + labels * labels);
            TypedBlocks y = Due.laid("l1000,,0;i12,1,0,0;" + HALT + "l1000,,0;".repeat(labels - 1));
            // LABEL: 3 for each label, IF 0 to each.
            DUE.due("mends(0, 0) of " + labels + " labels", y.mends(0, 0), 22 + 3 * labels + labels);
        }
    }

    /** What was asked ahead of an act is not answered behind it. */
    private static void askedAgainBehindAnAct() {
        DUE.part("15 to 24: asked as things stand, also behind an act, undo, back, lay");
        Twins.Call[] acts = {x -> x.put(0, 2, 0, 1, 2, 0), x -> x.cut(0, 2), x -> x.add(2, 0, 3, 0, 0, 0), x -> x.want(0, 3, 0),
            x -> x.want(2, 3, 8), x -> x.below(2, 0), TypedBlocks::undo, TypedBlocks::back, TypedBlocks::lay};
        Twins.Call[] questions = {x -> x.check(0), x -> x.reason(0), x -> x.check(1), x -> x.reason(2), x -> x.ahead(0, 3, 1),
            x -> x.ahead(0, 4, 5), TypedBlocks::sure, x -> x.joins(0), x -> x.joins(1), x -> x.might(0, 3),
            x -> x.might(2, 3), TypedBlocks::reached, x -> x.mends(0, 0), x -> x.mends(0, 1), x -> x.run(7, 200, 1),
            x -> x.day(0, 3, 0), x -> x.count(3)};
        for (int a = 0; a < acts.length; a++) {
            for (int ahead = 0; ahead < questions.length; ahead++) {
                for (int behind = 0; behind < questions.length; behind++) {
                    TypedBlocks asked = inUse();
                    questions[ahead].on(asked);
                    acts[a].on(asked);
                    TypedBlocks other = inUse();
                    acts[a].on(other);
                    DUE.due("question " + behind + " behind act " + a + " and question " + ahead,
                        questions[behind].on(asked), questions[behind].on(other));
                }
            }
        }
        // Asked first of all.
        DUE.due("reason(0)", Due.laid("l0000,,0;" + HALT).reason(0), 1);
        DUE.due("ahead(0, 0, 0)", Due.laid("l0000,,0;" + HALT).ahead(0, 0, 0), 0);
        DUE.due("mends(0, 1)", Due.laid("l0000,,0;" + HALT).mends(0, 1), 9 * 64);
    }

    private static TypedBlocks inUse() {
        TypedBlocks x = Due.told("s0;l1000,,0;i13,0,0,0;");
        x.want(1, 1, 1);
        x.keep();
        x.want(1, 0, 2);
        return x;
    }

    private static void askingChangesNothing() {
        DUE.part("17 to 22: Nothing else being done");
        TWINS.same("ahead(0, 3, 1)", TypedBlocks::new, x -> x.ahead(0, 3, 1), 2);
        TWINS.same("ahead(0, 3, 1)", Twins::busy, x -> x.ahead(0, 3, 1), NONE);
        TWINS.sameAnywhere("ahead(0, 6, 1)", x -> x.ahead(0, 6, 1), BAD);
        TWINS.sameAnywhere("ahead(0, 0, 11)", x -> x.ahead(0, 0, 11), BAD);
        TWINS.same("sure()", TypedBlocks::new, TypedBlocks::sure, 7);
        TWINS.same("sure()", Twins::busy, TypedBlocks::sure, 0);
        TWINS.same("joins(0)", TypedBlocks::new, x -> x.joins(0), 5);
        TWINS.sameAnywhere("joins(3)", x -> x.joins(3), BAD);
        TWINS.same("might(0, 3)", TypedBlocks::new, x -> x.might(0, 3), 463);
        TWINS.same("might(0, 3)", Twins::busy, x -> x.might(0, 3), 0);
        TWINS.sameAnywhere("might(0, 4)", x -> x.might(0, 4), BAD);
        TWINS.sameAnywhere("might(3, 0)", x -> x.might(3, 0), BAD);
        TWINS.sameAnywhere("reached()", TypedBlocks::reached, 7);
        TWINS.same("mends(0, 0)", AskBoundsTest::refusedAndBusy, x -> x.mends(0, 0), 5);
        TWINS.same("mends(0, 1)", AskBoundsTest::refusedAndBusy, x -> x.mends(0, 1), 608);
        TWINS.sameAnywhere("mends(0, 2)", x -> x.mends(0, 2), BAD);
    }

    /** The first program, refused in block 0 alone, with a program kept and an act that can be undone. */
    private static TypedBlocks refusedAndBusy() {
        TypedBlocks x = Due.told("s0;");
        x.keep();
        x.put(0, 2, 0, 1, 2, 0);
        return x;
    }
}
