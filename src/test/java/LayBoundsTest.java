/** LAID, and promises 5 to 8: a test for each sentence that names a bound. */
public final class LayBoundsTest {
    private static final int BAD = TypedBlocks.BAD, NO = TypedBlocks.NO, NONE = TypedBlocks.NONE;
    private static final int MIN = Integer.MIN_VALUE, MAX = Integer.MAX_VALUE;
    private static final String BLOCK = "l0000,,0;";
    private static final Due DUE = new Due();
    private static final Twins TWINS = new Twins(DUE);

    public static void main(String[] args) {
        howManyLabels();
        withoutFault();
        ofALabelAtLeast();
        labelsThatAreMeant();
        numbersThatMeanNoLabel();
        nothingUndoneOrKept();
        theTextStays();
        laidAgain();
        refusedLayChangesNothing();
        sortsThatThereAre();
        fieldsThatThereAre();
        fieldsHowMany();
        labelsThatThereAre();
        whatOfALabel();
        stackOfALabel();
        instructionsThatThereAre();
        whatOfAnInstruction();
        readingChangesNothing();
        DUE.finish();
    }

    private static void lay(String text, int due) {
        TypedBlocks x = Due.told(text);
        DUE.due("fault() of " + text, x.fault(), NONE);
        DUE.due("lay() of " + text, x.lay(), due);
        DUE.due("count(1) behind it", x.count(1), due == NO ? 3 : due);
    }

    private static void howManyLabels() {
        DUE.part("5: LAID: how many LABELS");
        for (int labels = 1; labels <= 4; labels++) {
            lay(BLOCK.repeat(labels), labels);
            lay("s0;s0;" + BLOCK.repeat(labels) + "s0;", labels);
        }
    }

    private static void withoutFault() {
        DUE.part("LAID is a TEXT without FAULT; NO else");
        String[] texts = {"x", BLOCK + "x", "x" + BLOCK, BLOCK + "i14,0,0,0;", BLOCK.repeat(5), BLOCK + "i13,0,0,0"};
        for (String text : texts) {
            DUE.holds("a fault in " + text, Due.told(text).fault() != NONE);
            DUE.due("lay() of " + text, Due.told(text).lay(), NO);
        }
        lay(BLOCK + "i13,0,0,0;", 1);
    }

    private static void ofALabelAtLeast() {
        DUE.part("LAID is a TEXT .. of a LABEL at least; NO else");
        lay("", NO);
        lay("s0;", NO);
        lay("s0;s0;s0;s0;", NO);
        lay(BLOCK, 1);
    }

    /** Each place where a label may be meant; ? is its number, ! its type. */
    private static void labelsThatAreMeant() {
        DUE.part("LAID: all LABELS that are meant are told; NO else");
        String[] meaning = {"l!000,,0;", "l0!00,,0;", "l00!0,,0;", "l000!,,0;", "l0000,!,0;", "l0000,0!,0;", "l0000,00!,0;",
            BLOCK + "i8,0,?,0;", BLOCK + "i9,?,0,0;", BLOCK + "i10,0,?,0;", BLOCK + "i11,?,0,0;", BLOCK + "i11,0,?,0;",
            BLOCK + "i13,0,0,0;i9,?,0,0;"};
        for (String m : meaning) {
            for (int l = 0; l <= 3; l++) {
                String text = m.replace("?", "" + l).replace("!", "" + (6 + l));
                for (int labels = 1; labels <= 4; labels++) {
                    int due = l < labels ? labels : NO;
                    lay(text + BLOCK.repeat(labels - 1), due);
                    lay(BLOCK.repeat(labels - 1) + text, due);
                }
            }
        }
    }

    private static void numbersThatMeanNoLabel() {
        DUE.part("LAID: LABELS that are meant (and no other number)");
        lay("s0;" + BLOCK + "i0,3,3,0;i1,3,99,0;i2,3,3,0;i4,3,2,3;i5,3,3,2;i6,3,0,0;", 1);
        lay("s0;s0;s0;s0;l5555,555,1;i7,3,0,0;i3,3,3,0;i12,3,0,0;i8,3,0,0;i10,3,0,0;i13,0,0,0;", 1);
    }

    private static void nothingUndoneOrKept() {
        DUE.part("5: nothing UNDONE, KEPT");
        for (int acts = 0; acts <= 9; acts++) {
            TypedBlocks x = Due.told(Model.FIRST);
            for (int i = 0; i < acts; i++) {
                x.put(2, 0, 1, 0, i, 0);
            }
            for (int i = 0; i < acts && i < 2; i++) {
                x.keep();
            }
            DUE.due("lay()", x.lay(), 3);
            DUE.due("count(4)", x.count(4), 0);
            DUE.due("count(5)", x.count(5), 0);
            DUE.due("undo()", x.undo(), NO);
            DUE.due("back()", x.back(), NO);
            DUE.due("code(2, 0, 0)", x.code(2, 0, 0), 13);
            DUE.due("keep()", x.keep(), 1);
            DUE.due("keep()", x.keep(), 2);
            x.cut(2, 0);
            DUE.due("undo()", x.undo(), 0);
        }
        TWINS.alike("laid in use, or at once", () -> {
            TypedBlocks x = Twins.busy();
            x.lay();
            return x;
        }, () -> Due.laid("s0;l1000,,0;i13,0,0,0;"));
    }

    private static void theTextStays() {
        DUE.part("5: THE TEXT stays");
        TypedBlocks x = Due.laid(BLOCK);
        DUE.due("count(6)", x.count(6), 9);
        DUE.due("fault()", x.fault(), NONE);
        DUE.due("write", x.write('s'), 10);
        DUE.due("fault()", x.fault(), 9);
        DUE.due("lay()", x.lay(), NO);
        DUE.due("write", x.write('0'), 11);
        DUE.due("write", x.write(';'), 12);
        DUE.due("lay()", x.lay(), 1);
        DUE.due("count(0)", x.count(0), 1);
    }

    private static void laidAgain() {
        DUE.part("5: LAID (again, as told; what was before is gone)");
        TypedBlocks x = Due.laid("s000;s1;l1111,111,1;" + "i6,3,0,0;".repeat(6) + "l0000,,1;l0000,,1;l0000,,1;");
        Due.retell(x, BLOCK);
        DUE.due("lay()", x.lay(), 1);
        DUE.due("count(0)", x.count(0), 0);
        DUE.due("count(2)", x.count(2), 0);
        DUE.due("label(0, 4)", x.label(0, 4), 0);
        DUE.due("label(0, 8)", x.label(0, 8), 0);
        DUE.due("sort(0, -1)", x.sort(0, -1), BAD);
        DUE.due("label(1, 0)", x.label(1, 0), BAD);
        DUE.due("code(0, 0, 0)", x.code(0, 0, 0), BAD);
        DUE.due("label(0, 0)", x.label(0, 0), 0);
        DUE.due("add", x.add(0, 0, 13, 0, 0, 0), 1);
        DUE.due("lay() again", x.lay(), 1);
        DUE.due("count(2)", x.count(2), 0);
    }

    private static void refusedLayChangesNothing() {
        DUE.part("5: NO. Nothing changes then");
        String[] texts = {"", "s0;", "x", BLOCK + "x", "l7000,,0;", "s000;" + BLOCK.repeat(4) + "l", BLOCK + "i9,1,0,0;"};
        for (String text : texts) {
            TWINS.same("lay() of " + text, () -> Twins.busy(text), TypedBlocks::lay, NO);
            TWINS.same("lay() of " + text, () -> Due.told(text), TypedBlocks::lay, NO);
        }
    }

    private static void sortsThatThereAre() {
        DUE.part("6: Of a SORT (such as there are); BAD (no such one)");
        for (int sorts = 0; sorts <= 4; sorts++) {
            TypedBlocks x = Due.laid("s00;".repeat(sorts) + BLOCK);
            for (int t : new int[] {MIN, -1, 0, 1, 2, 3, 4, 5, MAX}) {
                boolean is = t >= 0 && t < sorts;
                DUE.due("sort(" + t + ", -1) of " + sorts, x.sort(t, -1), is ? 2 : BAD);
                DUE.due("sort(" + t + ", 0) of " + sorts, x.sort(t, 0), is ? 1 : BAD);
            }
        }
    }

    private static void fieldsThatThereAre() {
        DUE.part("6: the TYPE of a FIELD; BAD (no such one)");
        for (int fields = 1; fields <= 3; fields++) {
            TypedBlocks x = Due.laid("s000;s" + "000".substring(3 - fields) + ";s000;" + BLOCK);
            for (int f : new int[] {MIN, -3, -2, 0, 1, 2, 3, 4, MAX}) {
                DUE.due("sort(1, " + f + ") of " + fields, x.sort(1, f), f >= 0 && f < fields ? 1 : BAD);
            }
        }
    }

    private static void fieldsHowMany() {
        DUE.part("6: how many FIELDS (f = -1)");
        for (int fields = 1; fields <= 3; fields++) {
            TypedBlocks x = Due.laid("s00;s" + "111".substring(3 - fields) + ";" + BLOCK);
            DUE.due("sort(1, -1)", x.sort(1, -1), fields);
            DUE.due("sort(1, 0)", x.sort(1, 0), 2);
        }
    }

    private static void labelsThatThereAre() {
        DUE.part("7: Of a LABEL (such as there are); BAD (no such one)");
        for (int labels = 1; labels <= 4; labels++) {
            TypedBlocks x = Due.laid("l1111,1,1;".repeat(labels));
            for (int l : new int[] {MIN, -1, 0, 1, 2, 3, 4, 5, MAX}) {
                for (int what : new int[] {0, 3, 4, 5, 8}) {
                    DUE.due("label(" + l + ", " + what + ") of " + labels, x.label(l, what),
                        l >= 0 && l < labels ? 1 : BAD);
                }
                DUE.due("label(" + l + ", 9) of " + labels, x.label(l, 9), l >= 0 && l < labels ? 0 : BAD);
            }
        }
    }

    private static void whatOfALabel() {
        DUE.part("7: what: REGISTER (0 to 3), how many (4), which (5 to 7), below (8), INSTRUCTIONS (9); BAD");
        TypedBlocks x = Due.laid("s0;l6210,012,1;i6,0,0,0;i6,0,0,0;");
        int[] due = {6, 2, 1, 0, 3, 0, 1, 2, 1, 2};
        for (int what = 0; what < due.length; what++) {
            DUE.due("label(0, " + what + ")", x.label(0, what), due[what]);
        }
        for (int what : new int[] {MIN, -2, -1, 10, 11, MAX}) {
            DUE.due("label(0, " + what + ")", x.label(0, what), BAD);
        }
    }

    private static void stackOfALabel() {
        DUE.part("7: which (5 to 7); BAD (no such one)");
        for (int height = 0; height <= 3; height++) {
            TypedBlocks x = Due.laid("l1111,111,1;l0000," + "111".substring(3 - height) + ",1;l1111,111,1;");
            for (int i = 0; i < 3; i++) {
                DUE.due("label(1, " + (5 + i) + ") of " + height, x.label(1, 5 + i), i < height ? 1 : BAD);
            }
        }
    }

    private static void instructionsThatThereAre() {
        DUE.part("8: Of an INSTRUCTION (of a LABEL: such as there are); BAD");
        for (int many = 0; many <= 6; many++) {
            String full = BLOCK + "i1,2,3,0;".repeat(6);
            TypedBlocks x = Due.laid(full + BLOCK + "i1,2,3,0;".repeat(many) + BLOCK + "i1,2,3,0;");
            for (int k : new int[] {MIN, -1, 0, 1, 2, 3, 4, 5, 6, 7, MAX}) {
                boolean is = k >= 0 && k < many;
                DUE.due("code(1, " + k + ", 0) of " + many, x.code(1, k, 0), is ? 1 : BAD);
                DUE.due("code(1, " + k + ", 2) of " + many, x.code(1, k, 2), is ? 3 : BAD);
            }
            for (int l : new int[] {MIN, -1, 3, 4, MAX}) {
                DUE.due("code(" + l + ", 0, 0)", x.code(l, 0, 0), BAD);
            }
        }
        TypedBlocks x = Due.laid(BLOCK + "i6,0,0,0;i6,1,0,0;");
        x.cut(0, 0);
        DUE.due("code(0, 0, 1) behind a cut", x.code(0, 0, 1), 1);
        DUE.due("code(0, 1, 1) behind a cut", x.code(0, 1, 1), BAD);
    }

    private static void whatOfAnInstruction() {
        DUE.part("8: C (what = 0), X, Y, Z (1 to 3); BAD");
        TypedBlocks x = Due.laid(BLOCK + "i4,1,2,3;i5,3,2,1;" + BLOCK + "i4,3,2,1;");
        int[] other = {4, 3, 2, 1};
        for (int what = 0; what < 4; what++) {
            DUE.due("code(1, 0, " + what + ")", x.code(1, 0, what), other[what]);
        }
        int[][] due = {{4, 1, 2, 3}, {5, 3, 2, 1}};
        for (int k = 0; k < 2; k++) {
            for (int what = 0; what < 4; what++) {
                DUE.due("code(0, " + k + ", " + what + ")", x.code(0, k, what), due[k][what]);
            }
            for (int what : new int[] {MIN, -2, -1, 4, 5, MAX}) {
                DUE.due("code(0, " + k + ", " + what + ")", x.code(0, k, what), BAD);
            }
        }
    }

    private static void readingChangesNothing() {
        DUE.part("6, 7, 8: Of a SORT, a LABEL, an INSTRUCTION (told, not done)");
        TWINS.sameAnywhere("sort(1, -1)", x -> x.sort(1, -1), 2);
        TWINS.sameAnywhere("sort(2, -1)", x -> x.sort(2, -1), BAD);
        TWINS.sameAnywhere("sort(0, 2)", x -> x.sort(0, 2), BAD);
        TWINS.sameAnywhere("label(1, 3)", x -> x.label(1, 3), 8);
        TWINS.sameAnywhere("label(3, 0)", x -> x.label(3, 0), BAD);
        TWINS.sameAnywhere("label(0, 10)", x -> x.label(0, 10), BAD);
        TWINS.sameAnywhere("code(0, 4, 2)", x -> x.code(0, 4, 2), 2);
        TWINS.sameAnywhere("code(0, 5, 0)", x -> x.code(0, 5, 0), BAD);
        TWINS.sameAnywhere("code(0, 0, 4)", x -> x.code(0, 0, 4), BAD);
    }
}
