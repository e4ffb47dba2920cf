/** Part 2 of the document, ENOUGH and CHECKED, and promises 15 and 16: a test for each sentence that names a bound. */
public final class EnoughBoundsTest {
    private static final int BAD = TypedBlocks.BAD, NONE = TypedBlocks.NONE;
    private static final int MIN = Integer.MIN_VALUE, MAX = Integer.MAX_VALUE;
    private static final String HALT = "i13,0,0,0;", JUMP = "i9,1,0,0;", PUSH = "i6,0,0,0;", BLOCK = "l1000,,1;";
    private static final Due DUE = new Due();
    private static final Twins TWINS = new Twins(DUE);

    public static void main(String[] args) {
        anyOrTheSame();
        anyOrTheSameOnTheStack();
        tuplesNotWhole();
        codeWhoseLabelWantsNoMore();
        codeOfEachForEach();
        codeWithinCode();
        eachRegister();
        heightOfTheStack();
        eachOnTheStack();
        registersAheadOfStack();
        whatALabelWantsOneHas();
        refusedAtTheFirst();
        moveSetNewLabel();
        addOfWords();
        putIntoTuples();
        getOutOfTuples();
        pushSixAtMost();
        popOfOne();
        ifOfWords();
        callSetsRegister3();
        backOfCode();
        haltWithAWord();
        behindAnEnd();
        withoutAnEnd();
        wholeWhenAllAreSet();
        labelsThatThereAre();
        askingChangesNothing();
        DUE.finish();
    }

    /** Block 0 is refused at a place for a reason; reason 0: it is sure. */
    private static void refused(String text, int place, int reason) {
        TypedBlocks x = Due.laid(text);
        DUE.due("check(0) of " + text, x.check(0), reason == 0 ? NONE : place);
        DUE.due("reason(0) of " + text, x.reason(0), reason == 0 ? NONE : reason);
        DUE.due("sure() of " + text, x.sure() & 1, reason == 0 ? 1 : 0);
    }

    private static void sure(String text) {
        refused(text, 0, 0);
    }

    private static String row(int length, int at, int type, int others) {
        StringBuilder s = new StringBuilder();
        for (int i = 0; i < length; i++) {
            s.append(i == at ? type : others);
        }
        return s.toString();
    }

    /** No label can stand for another one here: each wants a stack of another height, and nothing below. */
    private static void anyOrTheSame() {
        DUE.part("A TYPE is ENOUGH for another one, if that is ANY, or it is the same");
        String sorts = "s0;s0;s0;s0;";
        for (int r = 0; r < 4; r++) {
            for (int has = 0; has <= 9; has++) {
                for (int wants = 0; wants <= 9; wants++) {
                    String text = sorts + "l" + row(4, r, has, 0) + ",,0;" + JUMP + "l" + row(4, r, wants, 0)
                        + ",1,0;l1000,11,0;l1000,111,0;";
                    // The stack is never enough, and is looked at behind the registers.
                    refused(text, 0, wants == 0 || has == wants ? 7 : 6);
                }
            }
        }
    }

    private static void anyOrTheSameOnTheStack() {
        DUE.part("ENOUGH, if that is ANY, or it is the same: on the STACK");
        for (int has = 0; has <= 9; has++) {
            for (int wants = 0; wants <= 9; wants++) {
                String text = "s0;s0;s0;s0;l0" + has + "00,,0;i6,1,0,0;" + JUMP + "l0000," + wants
                    + ",0;l1000,11,0;l1000,111,0;";
                refused(text, 1, wants == 0 || has == wants ? 0 : 7);
            }
        }
    }

    private static void tuplesNotWhole() {
        DUE.part("one is ENOUGH for another one just if it is the same, with the same FIELDS set (or that is ANY)");
        String made = "s00;s00;l1000,,0;i3,1,0,0;";
        for (int set = 0; set < 4; set++) {
            String sets = ((set & 1) != 0 ? "i4,1,0,0;" : "") + ((set & 2) != 0 ? "i4,1,1,0;" : "");
            int place = 1 + Integer.bitCount(set);
            refused(made + sets + JUMP + "l1200,,0;" + HALT, place, set == 3 ? 0 : 6);
            refused(made + sets + JUMP + "l1300,,0;" + HALT, place, 6);
            refused(made + sets + JUMP + "l1100,,0;" + HALT, place, 6);
            refused(made + sets + JUMP + "l1600,,0;" + HALT, place, 6);
            refused(made + sets + JUMP + "l1000,,0;" + HALT, place, 0);
            refused(made + sets + "i6,1,0,0;" + JUMP + "l1000,2,0;" + HALT, place + 1, set == 3 ? 0 : 7);
            refused(made + sets + "i6,1,0,0;" + JUMP + "l1000,0,0;" + HALT, place + 1, 0);
        }
    }

    /** Code of label 2 comes where code of label 3 is wanted. */
    private static void code(String two, String three, boolean enough) {
        String text = "l1111,,0;i8,0,2,0;" + JUMP + "l9111,,0;" + HALT + "l" + two + ";l" + three + ";";
        refused(text, 1, enough ? 0 : 6);
        String stack = "l1111,,0;i8,0,2,0;i6,0,0,0;" + JUMP + "l0111,9,0;" + HALT + "l" + two + ";l" + three + ";";
        refused(stack, 2, enough ? 0 : 7);
    }

    private static void codeWhoseLabelWantsNoMore() {
        DUE.part("both are CODE, and what the LABEL of the other one wants is ENOUGH for what its own wants");
        for (int r = 0; r < 4; r++) {
            code(row(4, r, 0, 1) + ",,0", "1111,,0", true);
            code("1111,,0", row(4, r, 0, 1) + ",,0", false);
            code(row(4, r, 1, 0) + ",,0", row(4, r, 1, 0) + ",,0", true);
        }
        for (int own = 0; own <= 3; own++) {
            for (int other = 0; other <= 3; other++) {
                String a = "1111," + "111".substring(3 - own) + ",";
                String b = "1111," + "111".substring(3 - other) + ",";
                code(a + "0", b + "0", own == other);
                code(a + "0", b + "1", false);
                code(a + "1", b + "0", other >= own);
                code(a + "1", b + "1", other >= own);
            }
        }
        for (int at = 0; at < 3; at++) {
            code("1111," + row(3, at, 0, 1) + ",0", "1111,111,0", true);
            code("1111,111,0", "1111," + row(3, at, 0, 1) + ",0", false);
            code("1111," + row(3, at, 0, 1) + ",1", "1111,111,1", true);
            code("1111,111,1", "1111," + row(3, at, 0, 1) + ",1", false);
        }
    }

    /** Label v wants code of q, and jumps to itself with code of p; each label wants another height of the stack. */
    private static void codeOfEachForEach() {
        DUE.part("CODE is ENOUGH for CODE: of each LABEL for each");
        int[][] heights = {{0, 1, 2, 3}, {3, 2, 1, 0}, {2, 0, 3, 1}, {1, 3, 0, 2}};
        for (int[] height : heights) {
            for (int way = 0; way < 64; way++) {
                int p = way & 3;
                int q = way >> 2 & 3;
                int v = way >> 4;
                if (v != p) {
                    StringBuilder text = new StringBuilder();
                    for (int l = 0; l < 4; l++) {
                        text.append('l').append(l == v ? 6 + q : 0).append("000,").append(row(height[l], -1, 0, 0))
                            .append(",1;").append(l == v ? "i8,0," + p + ",0;i9," + v + ",0,0;" : "");
                    }
                    boolean enough = height[p] <= height[q];
                    DUE.due("check(" + v + ") of " + text, Due.laid(text.toString()).check(v), enough ? NONE : 1);
                    DUE.due("reason(" + v + ") of " + text, Due.laid(text.toString()).reason(v), enough ? NONE : 6);
                }
            }
        }
    }

    private static void codeWithinCode() {
        DUE.part("(in this, CODE is ENOUGH just for the same, and for ANY)");
        code("6111,,0", "6111,,0", true);
        code("0111,,0", "6111,,0", true);
        code("6111,,0", "0111,,0", false);
        code("1111,6,0", "1111,6,0", true);
        code("1111,0,0", "1111,6,0", true);
        // Labels 0 and 1 want the same, so code of one is enough for code of the other, but not within.
        for (int outer = 0; outer < 2; outer++) {
            String first = outer == 0 ? "l9111,,0;" : "l0111,,0;";
            String text = first + "i8,0,2,0;i10,1,1,0;" + HALT + "l9111,,0;" + HALT + "l6111,,0;l7111,,0;";
            refused(text, 1, 6);
            refused(text.replace("l6111,,0;l7111,,0;", "l1111,6,0;l1111,7,0;"), 1, 6);
            refused(text.replace("l6111,,0;l7111,,0;", "l1111,116,1;l1111,117,1;"), 1, 6);
        }
        // It is what the labels want that counts, whatever is in their blocks.
        sure("l9000,,1;i8,0,2,0;i9,0,0,0;l0000,,1;" + "i4,0,0,3;".repeat(6) + "l0000,,1;l0000,,1;");
        sure("l9000,,1;i8,0,2,0;i9,0,0,0;l0000,,1;l0000,,1;" + "i4,0,0,3;".repeat(6) + "l0000,,1;");
        // One level of it is enough: code of 1 for code of 0, both wanting the same.
        sure("l1111,,0;i8,0,1,0;i9,2,0,0;l1111,,0;" + HALT + "l6111,,0;" + HALT);
        // Code of 3, that wants code of 1, where code of 2 is wanted, that wants code of 0.
        refused("l1111,,0;i8,0,3,0;i9,1,0,0;l8111,,0;" + HALT + "l6111,,0;" + HALT + "l7111,,0;" + HALT, 1, 6);
    }

    private static void eachRegister() {
        DUE.part("What one has is ENOUGH for a LABEL, if each REGISTER is ENOUGH for what that wants");
        for (int r = 0; r < 4; r++) {
            refused("l" + row(4, r, 0, 1) + ",,0;" + JUMP + "l1111,,0;" + HALT, 0, 6);
            refused("l" + row(4, r, 0, 1) + ",,0;" + JUMP + "l" + row(4, r, 0, 1) + ",,0;" + HALT, 0, 0);
            refused("l" + row(4, r, 1, 0) + ",,0;" + JUMP + "l" + row(4, r, 1, 0) + ",,0;" + HALT, 0, 0);
        }
    }

    private static void heightOfTheStack() {
        DUE.part("the STACK has as many TYPES, and no more, and nothing below, if it wants nothing below; else as many at least");
        for (int has = 0; has <= 6; has++) {
            int told = Math.min(3, has);
            int pushed = has - told;
            for (int wants = 0; wants <= 3; wants++) {
                for (int below = 0; below < 4; below++) {
                    int hasBelow = below & 1;
                    int wantsBelow = below >> 1;
                    boolean enough = wantsBelow == 1 ? has >= wants : has == wants && hasBelow == 0;
                    for (int type = 0; type < 2; type++) {
                        refused("l1111," + row(told, -1, 0, 1) + "," + hasBelow + ";" + PUSH.repeat(pushed) + JUMP
                            + "l1111," + row(wants, -1, 0, type) + "," + wantsBelow + ";" + HALT, pushed, enough ? 0 : 7);
                    }
                }
            }
        }
    }

    private static void eachOnTheStack() {
        DUE.part("the STACK has as many TYPES, each ENOUGH (the upmost first, whatever is below)");
        for (int below = 0; below < 2; below++) {
            for (int at = 0; at < 3; at++) {
                String has = "l1111," + row(3, at, 0, 1) + ",0;" + JUMP;
                refused(has + "l1111,111," + below + ";" + HALT, 0, 7);
                refused(has + "l1111," + row(3, at, 0, 1) + "," + below + ";" + HALT, 0, 0);
                refused(has + "l1111,000," + below + ";" + HALT, 0, 0);
                // Of a higher one just the upmost count.
                for (int wants = 0; wants <= 3; wants++) {
                    refused(has + "l1111," + row(wants, -1, 0, 1) + ",1;" + HALT, 0, wants > at ? 7 : 0);
                }
            }
        }
        // 6 are known, the upmost three are looked at.
        String high = "l1011,000,1;i6,0,0,0;i6,1,0,0;i6,0,0,0;" + JUMP;
        refused(high + "l1011,101,1;" + HALT, 3, 0);
        refused(high + "l1011,111,1;" + HALT, 3, 7);
        refused(high + "l1011,011,1;" + HALT, 3, 7);
    }

    private static void registersAheadOfStack() {
        DUE.part("JUMP: REGISTERS must be ENOUGH for l's (6), the STACK for l's (7): by the first of its reasons");
        refused("l1111,,0;" + JUMP + "l1111,,0;" + HALT, 0, 0);
        refused("l1110,,0;" + JUMP + "l1111,,0;" + HALT, 0, 6);
        refused("l1111,,0;" + JUMP + "l1111,1,0;" + HALT, 0, 7);
        refused("l1110,,0;" + JUMP + "l1111,1,0;" + HALT, 0, 6);
        // To itself, and to a label whose own block is refused.
        sure("l1111,111,1;i9,0,0,0;");
        sure("l1111,,0;" + JUMP + "l1111,,0;");
    }

    private static void whatALabelWantsOneHas() {
        DUE.part("What a LABEL wants one has at it");
        TypedBlocks x = Due.laid("s0;l0126,621,0;l7777,,1;");
        int[] due = {0, 1, 2, 6, 3, 6, 2, 1, NONE, NONE, NONE};
        for (int what = 0; what < due.length; what++) {
            DUE.due("ahead(0, 0, " + what + ")", x.ahead(0, 0, what), due[what]);
        }
        for (int r = 0; r < 4; r++) {
            DUE.due("ahead(1, 0, " + r + ")", x.ahead(1, 0, r), 7);
        }
        DUE.due("ahead(1, 0, 4)", x.ahead(1, 0, 4), 0);
    }

    private static void refusedAtTheFirst() {
        DUE.part("REFUSED at the first that can not be, by the first of its reasons");
        String[] wrong = {"i2,1,1,0;", "i4,0,0,0;", "i7,0,0,0;", "i12,0,0,0;"};
        int[] reasons = {1, 2, 5, 8};
        for (int i = 0; i < wrong.length; i++) {
            for (int j = 0; j < wrong.length; j++) {
                for (int at = 0; at <= 4; at++) {
                    refused("l1000,,0;" + "i1,0,0,0;".repeat(at) + wrong[i] + wrong[j], at, reasons[i]);
                }
            }
        }
        // The last of six.
        refused("l1000,,0;" + "i1,0,0,0;".repeat(5) + "i12,0,0,0;", 5, 8);
    }

    private static void moveSetNewLabel() {
        DUE.part("MOVE: d is as a then. SET: d is a WORD. NEW: no FIELD set. LABEL: d is CODE of l");
        for (int d = 0; d < 4; d++) {
            for (int a = 0; a < 4; a++) {
                TypedBlocks x = Due.laid("s0;l0126,,0;i0," + d + "," + a + ",0;");
                int[] types = {0, 1, 2, 6};
                for (int r = 0; r < 4; r++) {
                    DUE.due("MOVE, ahead(0, 1, " + r + ")", x.ahead(0, 1, r), r == d ? types[a] : types[r]);
                }
            }
            String[] told = {"i1," + d + ",99,0;", "i3," + d + ",3,0;", "i8," + d + ",3,0;"};
            int[] due = {1, 34, 9};
            for (int i = 0; i < told.length; i++) {
                TypedBlocks x = Due.laid("s0;s0;s0;s0;l0126,,0;" + told[i] + BLOCK + BLOCK + BLOCK);
                int[] types = {0, 1, 2, 6};
                for (int r = 0; r < 4; r++) {
                    DUE.due(told[i] + " ahead(0, 1, " + r + ")", x.ahead(0, 1, r), r == d ? due[i] : types[r]);
                }
            }
        }
    }

    private static void addOfWords() {
        DUE.part("ADD: d, then a must be WORDS (1)");
        int[] types = {0, 1, 2, 6};
        for (int d : types) {
            for (int a : types) {
                refused("s0;l1" + d + a + "1,,0;i2,1,2,0;" + HALT, 0, d == 1 && a == 1 ? 0 : 1);
            }
        }
        refused("s0;l1000,,0;i3,1,0,0;i2,0,1,0;" + HALT, 1, 1);
        TypedBlocks x = Due.laid("l1100,,0;i2,0,1,0;" + HALT);
        DUE.due("ahead(0, 1, 0)", x.ahead(0, 1, 0), 1);
    }

    private static void putIntoTuples() {
        DUE.part("PUT: d must be a TUPLE (2), that has such a FIELD (3), a be ENOUGH for it (4); d has it set then");
        for (int d : new int[] {0, 1, 6}) {
            // Field 2, that there is not, and a that is not enough would be refused, too.
            refused("s0;l0" + d + "00,,0;i4,1,2,0;" + HALT, 0, 2);
        }
        for (int fields = 1; fields <= 3; fields++) {
            String sort = "s" + "000".substring(3 - fields) + ";";
            for (int f = 0; f <= 2; f++) {
                refused(sort + "l1200,,0;i4,1," + f + ",0;" + HALT, 0, f < fields ? 0 : 3);
                refused(sort + "l1200,,0;i4,1," + f + ",2;" + HALT, 0, f < fields ? 4 : 3);
                refused(sort + "l1000,,0;i3,1,0,0;i4,1," + f + ",0;" + HALT, 1, f < fields ? 0 : 3);
            }
        }
        int[] types = {0, 1, 2, 3, 6};
        for (int a : types) {
            refused("s0;s10;l13" + a + "1,,0;i4,1,0,2;" + HALT, 0, a == 2 ? 0 : 4);
            refused("s0;s10;l13" + a + "1,,0;i4,1,1,2;" + HALT, 0, a == 1 ? 0 : 4);
        }
        refused("s0;s1;l1301,,0;i3,2,0,0;i4,1,0,2;" + HALT, 1, 4);
        sure("s0;s1;l1301,,0;i3,2,0,0;i4,2,0,0;i4,1,0,2;" + HALT);
    }

    private static void getOutOfTuples() {
        DUE.part("GET: a must be a TUPLE (2), that has such a FIELD, and that set (3); d is as the FIELD then");
        for (int a : new int[] {0, 1, 6}) {
            refused("s0;l1" + a + "00,,0;i5,2,1,2;" + HALT, 0, 2);
        }
        for (int fields = 1; fields <= 3; fields++) {
            String sort = "s" + "000".substring(3 - fields) + ";";
            for (int f = 0; f <= 2; f++) {
                refused(sort + "l1200,,0;i5,2,1," + f + ";" + HALT, 0, f < fields ? 0 : 3);
                for (int set = 0; set < fields; set++) {
                    refused(sort + "l1000,,0;i3,1,0,0;i4,1," + set + ",0;i5,2,1," + f + ";" + HALT, 2, f == set ? 0 : 3);
                }
                refused(sort + "l1000,,0;i3,1,0,0;i5,2,1," + f + ";" + HALT, 1, 3);
            }
        }
        TypedBlocks x = Due.laid("s0;s1;s021;l0004,,0;i5,0,3,0;i5,1,3,1;i5,2,3,2;i5,3,1,0;i5,3,3,0;" + HALT);
        int[] due = {1, 3, 2, 1};
        for (int r = 0; r < 4; r++) {
            DUE.due("ahead(0, 5, " + r + ")", x.ahead(0, 5, r), due[r]);
        }
    }

    private static void pushSixAtMost() {
        DUE.part("PUSH: the STACK has a's TYPE on top, 6 at most (5)");
        for (int told = 0; told <= 3; told++) {
            for (int below = 0; below < 2; below++) {
                String ahead = "l1000," + row(told, -1, 0, 1) + "," + below + ";";
                for (int pushes = 1; pushes <= 5; pushes++) {
                    boolean fits = told + pushes <= 6;
                    refused(ahead + PUSH.repeat(pushes) + HALT, 6 - told, fits ? 0 : 5);
                }
                // Six pushes have no end: the seventh type is refused ahead of that.
                refused(ahead + PUSH.repeat(6), 6 - told, told == 0 ? 10 : 5);
            }
        }
        TypedBlocks x = Due.laid("s0;l1206,,1;i6,0,0,0;i6,1,0,0;i6,2,0,0;i6,3,0,0;");
        int[] due = {4, 6, 0, 2, 1, NONE};
        for (int i = 0; i < due.length; i++) {
            DUE.due("ahead(0, 4, " + (4 + i) + ")", x.ahead(0, 4, 4 + i), due[i]);
        }
    }

    private static void popOfOne() {
        DUE.part("POP: it must have one (5); d is as that, which is no more on the STACK");
        for (int told = 0; told <= 3; told++) {
            for (int below = 0; below < 2; below++) {
                for (int pops = 1; pops <= 5; pops++) {
                    refused("l1000," + row(told, -1, 0, 1) + "," + below + ";" + "i7,3,0,0;".repeat(pops) + HALT, told,
                        pops <= told ? 0 : 5);
                }
            }
        }
        refused("l1000,,0;i6,0,0,0;i7,1,0,0;i7,1,0,0;" + HALT, 2, 5);
        TypedBlocks x = Due.laid("s0;l1110,206,1;i7,3,0,0;i7,0,0,0;i7,1,0,0;" + HALT);
        int[][] due = {{1, 1, 1, 0, 3, 2, 0, 6}, {1, 1, 1, 2, 2, 0, 6, NONE}, {0, 1, 1, 2, 1, 6, NONE, NONE},
            {0, 6, 1, 2, 0, NONE, NONE, NONE}};
        for (int k = 0; k < due.length; k++) {
            for (int what = 0; what < 8; what++) {
                DUE.due("ahead(0, " + k + ", " + what + ")", x.ahead(0, k, what), due[k][what]);
            }
        }
    }

    private static void ifOfWords() {
        DUE.part("IF: a must be a WORD (1), then as JUMP; it goes on behind it");
        String to = "l1111,1,0;" + HALT;
        refused("s0;l0000,,0;i10,0,1,0;" + HALT + to, 0, 1);
        refused("s0;l2000,,0;i10,0,1,0;" + HALT + to, 0, 1);
        refused("s0;l6000,,0;i10,0,1,0;" + HALT + to, 0, 1);
        refused("s0;l1000,,0;i10,0,1,0;" + HALT + to, 0, 6);
        refused("s0;l1111,,0;i10,0,1,0;" + HALT + to, 0, 7);
        refused("s0;l1111,1,0;i10,0,1,0;" + HALT + to, 0, 0);
        // It goes on behind it, as it was ahead of it, and is no end.
        refused("l1111,1,0;i10,0,1,0;i10,1,1,0;i10,3,1,0;" + HALT + to, 0, 0);
        refused("l1111,1,0;i10,0,1,0;" + to, 1, 10);
    }

    private static void callSetsRegister3() {
        DUE.part("CALL: REGISTER 3 is CODE of m, then as JUMP to l");
        refused("l1110,,0;i11,1,2,0;l1118,,0;" + HALT + BLOCK, 0, 0);
        refused("l1118,,0;i11,1,0,0;l1118,,0;" + HALT + "l1000,,0;", 0, 6);
        refused("l1111,,0;i11,1,2,0;l1111,,0;" + HALT + BLOCK, 0, 6);
        refused("l1110,,0;i11,1,2,0;l1118,1,0;" + HALT + BLOCK, 0, 7);
        refused("l0110,,0;i11,1,2,0;l1118,1,0;" + HALT + BLOCK, 0, 6);
        refused("l1110,,0;i11,1,2,0;l1110,,0;" + HALT + BLOCK, 0, 0);
    }

    private static void backOfCode() {
        DUE.part("BACK: a must be CODE (8), then as JUMP to its LABEL");
        for (int a = 0; a < 4; a++) {
            for (int type : new int[] {0, 1, 2, 7}) {
                // Where it is code, the stack of label 1 is not there.
                refused("s0;l" + row(4, a, type, 1) + ",,0;i12," + a + ",0,0;l0000,1,0;" + HALT, 0, type == 7 ? 7 : 8);
            }
        }
        refused("s0;l1000,,0;i3,1,0,0;i12,1,0,0;", 1, 8);
        refused("l1110,,0;i8,3,1,0;i12,3,0,0;l1117,,0;" + HALT, 1, 0);
        refused("l1100,,0;i8,3,1,0;i12,3,0,0;l1117,1,0;" + HALT, 1, 6);
        refused("l1110,,0;i8,3,1,0;i12,3,0,0;l1117,1,0;" + HALT, 1, 7);
    }

    private static void haltWithAWord() {
        DUE.part("HALT: REGISTER 0 must be a WORD (1)");
        for (int type : new int[] {0, 1, 2, 6}) {
            refused("s0;l" + type + "111,,0;" + HALT, 0, type == 1 ? 0 : 1);
        }
        refused("s0;l1111,,0;i3,0,0,0;" + HALT, 1, 1);
        // The stack may be as it likes.
        sure("s0;l1026,216,1;" + HALT);
    }

    private static void behindAnEnd() {
        DUE.part("A block ends with JUMP, CALL, BACK, HALT: an INSTRUCTION behind one of these is REFUSED (9)");
        String[] ends = {"i9,0,0,0;", "i11,0,0,0;", "i12,3,0,0;", HALT};
        for (String end : ends) {
            for (int c = 0; c < Operands.KINDS; c++) {
                refused("s0;l1116,,1;" + end + "i" + c + ",0,0,0;", 1, 9);
                refused("s0;l1116,,1;i1,1,0,0;" + end + "i" + c + ",0,0,0;i1,0,0,0;", 2, 9);
            }
            sure("s0;l1116,,1;" + end);
        }
        // No other one is an end.
        String[] others = {"i0,1,2,0;", "i1,1,0,0;", "i2,1,2,0;", "i3,1,0,0;", "i6,1,0,0;", "i8,1,0,0;", "i10,0,0,0;"};
        for (String other : others) {
            sure("s0;l1116,,1;" + other + HALT);
        }
        sure("s0;l1216,1,1;i4,1,0,0;i5,2,1,0;i7,2,0,0;" + HALT);
        // The end itself is refused, if it can not be: not what is behind it.
        refused("l0000,,0;" + HALT + HALT, 0, 1);
    }

    private static void withoutAnEnd() {
        DUE.part("REFUSED, so is the end without one (10; its place is how many there are)");
        for (int many = 0; many <= 6; many++) {
            refused("l1000,,0;" + "i1,0,0,0;".repeat(many), many, 10);
            if (many < 6) {
                sure("l1000,,0;" + "i1,0,0,0;".repeat(many) + HALT);
            }
        }
    }

    private static void wholeWhenAllAreSet() {
        DUE.part("A TUPLE whose FIELDS are all set is whole");
        for (int fields = 1; fields <= 3; fields++) {
            String sort = "s" + "000".substring(3 - fields) + ";";
            for (int set = 0; set < 1 << fields; set++) {
                StringBuilder puts = new StringBuilder();
                for (int f = 0; f < fields; f++) {
                    puts.append((set >> f & 1) == 1 ? "i4,1," + f + ",0;" : "");
                }
                TypedBlocks x = Due.laid("s0;" + sort + "l1000,,0;i3,1,1,0;" + puts + HALT);
                int k = 1 + Integer.bitCount(set);
                DUE.due(puts + " ahead(0, " + k + ", 1)", x.ahead(0, k, 1), set == (1 << fields) - 1 ? 3 : 18 + set);
            }
        }
        // Set twice, it is set; set where it is whole, it stays whole; made anew, nothing is set.
        TypedBlocks x = Due.laid("s00;l1200,,0;i4,1,1,0;i3,1,0,0;i4,1,1,0;i4,1,1,0;i4,1,0,0;" + HALT);
        int[] due = {2, 2, 10, 12, 12, 2};
        for (int k = 0; k < due.length; k++) {
            DUE.due("ahead(0, " + k + ", 1)", x.ahead(0, k, 1), due[k]);
        }
    }

    private static void labelsThatThereAre() {
        DUE.part("15, 16: NONE; BAD");
        for (int labels = 1; labels <= 4; labels++) {
            TypedBlocks good = Due.laid((BLOCK + HALT).repeat(labels));
            TypedBlocks none = Due.laid(BLOCK.repeat(labels));
            for (int l : new int[] {MIN, -1, 0, 1, 2, 3, 4, 5, MAX}) {
                boolean is = l >= 0 && l < labels;
                DUE.due("check(" + l + ")", good.check(l), is ? NONE : BAD);
                DUE.due("reason(" + l + ")", good.reason(l), is ? NONE : BAD);
                DUE.due("check(" + l + ")", none.check(l), is ? 0 : BAD);
                DUE.due("reason(" + l + ")", none.reason(l), is ? 10 : BAD);
            }
        }
    }

    private static void askingChangesNothing() {
        DUE.part("15, 16: Nothing else being done");
        TWINS.same("check(0)", TypedBlocks::new, x -> x.check(0), NONE);
        TWINS.same("check(2)", Twins::busy, x -> x.check(2), 2);
        TWINS.same("reason(2)", Twins::busy, x -> x.reason(2), 10);
        TWINS.sameAnywhere("check(3)", x -> x.check(3), BAD);
        TWINS.sameAnywhere("reason(-1)", x -> x.reason(-1), BAD);
    }
}
