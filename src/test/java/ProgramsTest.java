/** Promises 1 to 8: a new object, write, wipe, fault, lay, sort, label, code. */
public final class ProgramsTest {
    private static final int BAD = TypedBlocks.BAD, NO = TypedBlocks.NO, FULL = TypedBlocks.FULL,
        NONE = TypedBlocks.NONE;
    private static final Due DUE = new Due();

    public static void main(String[] args) {
        newObject();
        writing();
        wiping();
        faults();
        faultsOfSorts();
        faultsOfLabels();
        faultsOfInstructions();
        laying();
        sorts();
        labels();
        codes();
        DUE.finish();
    }

    private static void newObject() {
        DUE.part("1 a new object");
        TypedBlocks x = new TypedBlocks();
        int[] counts = {2, 3, 10, 3, 0, 0, 0};
        for (int what = 0; what < counts.length; what++) {
            DUE.due("count(" + what + ")", x.count(what), counts[what]);
        }
        TypedBlocks told = Due.laid(Model.FIRST);
        for (int l = 0; l < 3; l++) {
            for (int what = 0; what < 10; what++) {
                DUE.due("label(" + l + ", " + what + ")", x.label(l, what), told.label(l, what));
            }
            for (int k = 0; k < 6; k++) {
                for (int what = 0; what < 4; what++) {
                    DUE.due("code(" + l + ", " + k + ", " + what + ")", x.code(l, k, what), told.code(l, k, what));
                }
            }
        }
        DUE.due("fault()", x.fault(), NONE);
        DUE.due("lay() of no text", x.lay(), NO);
        DUE.due("undo()", x.undo(), NO);
        DUE.due("back()", x.back(), NO);
        DUE.due("BAD", BAD, -1);
        DUE.due("NO", NO, -2);
        DUE.due("FULL", FULL, -3);
        DUE.due("NONE", NONE, -4);
    }

    private static void writing() {
        DUE.part("2 write");
        TypedBlocks x = new TypedBlocks();
        DUE.due("write(31)", x.write(31), BAD);
        DUE.due("write(127)", x.write(127), BAD);
        DUE.due("write(-1)", x.write(-1), BAD);
        DUE.due("write(371)", x.write('s' + 256), BAD);
        DUE.due("write(min)", x.write(Integer.MIN_VALUE), BAD);
        DUE.due("write(32)", x.write(32), 1);
        DUE.due("write(126)", x.write(126), 2);
        for (int i = 3; i <= 200; i++) {
            DUE.due("write(48)", x.write('0'), i);
        }
        DUE.due("write(48) behind 200", x.write('0'), FULL);
        DUE.due("write(31) behind 200", x.write(31), BAD);
        DUE.due("count(6)", x.count(6), 200);
    }

    private static void wiping() {
        DUE.part("3 wipe");
        TypedBlocks x = Due.told("s0;x");
        DUE.due("fault()", x.fault(), 3);
        DUE.due("wipe()", x.wipe(), 4);
        DUE.due("count(6)", x.count(6), 0);
        DUE.due("fault()", x.fault(), NONE);
        DUE.due("wipe()", x.wipe(), 0);
        DUE.due("count(1)", x.count(1), 3);
    }

    private static void fault(String text, int due) {
        DUE.due("fault() of " + text, Due.told(text).fault(), due);
    }

    private static void faults() {
        DUE.part("4 fault");
        fault("", NONE);
        fault(Model.FIRST, NONE);
        fault(Model.FIRST + "i", Model.FIRST.length());
        fault(";", 0);
        fault(" s0;", 0);
        fault("s0; s0;", 3);
        fault("s0;;", 3);
        fault("S0;", 0);
        fault("s0", 0);
        fault("s0;l", 3);
        fault("s0;s0;s9;l", 6);
    }

    private static void faultsOfSorts() {
        DUE.part("4 fault, sorts");
        fault("s;", 0);
        fault("s0;", NONE);
        fault("s000;", NONE);
        fault("s0000;", 0);
        fault("s1;", 0);
        fault("s0;s1;", NONE);
        fault("s0;s2;", 3);
        fault("s0;s0;s0;s3;", NONE);
        fault("s0;s0;s0;s4;", 9);
        fault("s0;s0;s0;s0;", NONE);
        fault("s0;s0;s0;s0;s0;", 12);
        fault("s0,0;", 0);
        fault("s0;l0000,,0;s1;l3000,,0;", NONE);
    }

    private static void faultsOfLabels() {
        DUE.part("4 fault, labels");
        fault("l0000,,0;", NONE);
        fault("l000,,0;", 0);
        fault("l00000,,0;", 0);
        fault("l0000,0,0;", NONE);
        fault("l0000,000,1;", NONE);
        fault("l0000,0000,1;", 0);
        fault("l0000,,2;", 0);
        fault("l0000,,01;", NONE);
        fault("l0000,,001;", 0);
        fault("l0000,,10;", 0);
        fault("l0000,,;", 0);
        fault("l0000,0;", 0);
        fault("l2000,,0;", 0);
        fault("s0;l2000,,0;", NONE);
        fault("s0;l3000,,0;", 3);
        fault("s0;l0000,3,0;", 3);
        fault("s0;s0;s0;s0;l5555,555,0;", NONE);
        fault("l6789,996,0;", NONE);
        fault("l0000,,0;l0000,,0;l0000,,0;l0000,,0;", NONE);
        fault("l0000,,0;l0000,,0;l0000,,0;l0000,,0;l0000,,0;", 36);
        fault("l000-,,0;", 0);
        fault("l0000,/,0;", 0);
        fault("l0000,:,0;", 0);
    }

    private static void instruction(String told, boolean fits) {
        String ahead = "s0;l0000,,0;";
        fault(ahead + "i" + told + ";", fits ? NONE : ahead.length());
    }

    private static void faultsOfInstructions() {
        DUE.part("4 fault, instructions");
        fault("i13,0,0,0;", 0);
        fault("s0;i13,0,0,0;", 3);
        String[] fitting = {"0,3,3,0", "1,3,99,0", "2,3,3,0", "3,3,0,0", "4,3,2,3", "5,3,3,2", "6,3,0,0", "7,3,0,0",
            "8,3,3,0", "9,3,0,0", "10,3,3,0", "11,3,3,0", "12,3,0,0", "13,0,0,0", "07,03,00,00"};
        for (String told : fitting) {
            instruction(told, true);
        }
        String[] others = {"0,4,0,0", "0,0,4,0", "0,0,0,1", "1,4,0,0", "1,0,100,0", "1,0,0,1", "2,4,0,0", "2,0,4,0",
            "2,0,0,1", "3,4,0,0", "3,0,1,0", "3,0,0,1", "4,4,0,0", "4,0,3,0", "4,0,0,4", "5,4,0,0", "5,0,4,0",
            "5,0,0,3", "6,4,0,0", "6,0,1,0", "6,0,0,1", "7,4,0,0", "7,0,1,0", "7,0,0,1", "8,4,0,0", "8,0,4,0",
            "8,0,0,1", "9,4,0,0", "9,0,1,0", "9,0,0,1", "10,4,0,0", "10,0,4,0", "10,0,0,1", "11,4,0,0", "11,0,4,0",
            "11,0,0,1", "12,4,0,0", "12,0,1,0", "12,0,0,1", "13,1,0,0", "13,0,1,0", "13,0,0,1", "14,0,0,0",
            "99,0,0,0", "6,0,0", "6,0,0,0,0", ",0,0,0", "6,,0,0", "6,0,0,", "6,000,0,0", "6 ,0,0,0"};
        for (String told : others) {
            instruction(told, false);
        }
        String six = "l0000,,0;" + "i6,0,0,0;".repeat(6);
        fault(six, NONE);
        fault(six + "i6,0,0,0;", six.length());
        fault(six + "l0000,,0;i6,0,0,0;", NONE);
        fault("l0000,,0;i3,0,0,0;s0;", 9);
        fault("l0000,,0;s0;i3,0,0,0;", NONE);
    }

    private static void lay(String text, int due) {
        TypedBlocks x = Due.told(text);
        DUE.due("lay() of " + text, x.lay(), due);
        DUE.due("count(1) behind it", x.count(1), due > 0 ? due : 3);
        DUE.due("count(6) behind it", x.count(6), text.length());
    }

    private static void laying() {
        DUE.part("5 lay");
        lay("", NO);
        lay("s0;", NO);
        lay("s0;x", NO);
        lay("l0000,,0;", 1);
        lay("l0000,,0;l0000,,0;l0000,,0;l0000,,0;", 4);
        String[] meaning = {"l7000,,0;", "l0007,,0;", "l0000,007,0;", "l0000,,0;i8,0,1,0;", "l0000,,0;i9,1,0,0;",
            "l0000,,0;i10,0,1,0;", "l0000,,0;i11,1,0,0;", "l0000,,0;i11,0,1,0;"};
        for (String text : meaning) {
            fault(text, NONE);
            lay(text, NO);
            lay(text + "l0000,,0;", 2);
        }
        lay("l6000,,0;i1,3,3,0;i0,3,3,0;i2,3,3,0;i12,3,0,0;", 1);
        lay("l9000,,0;l0000,,0;l0000,,0;", NO);
        TypedBlocks x = Due.told("l0000,,0;");
        x.cut(0, 0);
        x.keep();
        DUE.due("lay()", x.lay(), 1);
        DUE.due("count(4)", x.count(4), 0);
        DUE.due("count(5)", x.count(5), 0);
        DUE.due("undo()", x.undo(), NO);
        DUE.due("back()", x.back(), NO);
        x.add(0, 0, 13, 0, 0, 0);
        x.keep();
        x.write('x');
        DUE.due("lay() that may not", x.lay(), NO);
        DUE.due("count(2)", x.count(2), 1);
        DUE.due("count(4)", x.count(4), 1);
        DUE.due("count(5)", x.count(5), 1);
    }

    private static void sorts() {
        DUE.part("6 sort");
        TypedBlocks x = Due.laid("s0;s10;s021;s321;l0000,,0;");
        int[][] types = {{1}, {2, 1}, {1, 3, 2}, {4, 3, 2}};
        for (int t = 0; t < 4; t++) {
            DUE.due("sort(" + t + ", -1)", x.sort(t, -1), types[t].length);
            for (int f = 0; f < types[t].length; f++) {
                DUE.due("sort(" + t + ", " + f + ")", x.sort(t, f), types[t][f]);
            }
            DUE.due("sort(" + t + ", behind)", x.sort(t, types[t].length), BAD);
        }
        DUE.due("sort(4, -1)", x.sort(4, -1), BAD);
        DUE.due("sort(-1, -1)", x.sort(-1, -1), BAD);
        DUE.due("sort(0, -2)", x.sort(0, -2), BAD);
        DUE.due("sort(max, 0)", x.sort(Integer.MAX_VALUE, 0), BAD);
        DUE.due("sort(0, min)", x.sort(0, Integer.MIN_VALUE), BAD);
        DUE.due("sort(0, -1) of none", Due.laid("l0000,,0;").sort(0, -1), BAD);
    }

    private static void labels() {
        DUE.part("7 label");
        TypedBlocks x = Due.laid("s0;l0126,261,1;i6,0,0,0;i13,0,0,0;l7000,2,0;");
        int[] first = {0, 1, 2, 6, 3, 2, 6, 1, 1, 2, BAD};
        int[] second = {7, 0, 0, 0, 1, 2, BAD, BAD, 0, 0, BAD};
        for (int what = 0; what < 11; what++) {
            DUE.due("label(0, " + what + ")", x.label(0, what), first[what]);
            DUE.due("label(1, " + what + ")", x.label(1, what), second[what]);
        }
        for (int what = 5; what < 8; what++) {
            DUE.due("label(0, " + what + ") of no stack", Due.laid("l0000,,1;").label(0, what), BAD);
        }
        DUE.due("label(2, 0)", x.label(2, 0), BAD);
        DUE.due("label(-1, 0)", x.label(-1, 0), BAD);
        DUE.due("label(0, -1)", x.label(0, -1), BAD);
        DUE.due("label(max, 9)", x.label(Integer.MAX_VALUE, 9), BAD);
        DUE.due("label(0, max)", x.label(0, Integer.MAX_VALUE), BAD);
    }

    private static void codes() {
        DUE.part("8 code");
        TypedBlocks x = Due.laid("l0000,,0;i1,2,99,0;i4,3,2,1;l0000,,0;");
        int[][] due = {{1, 2, 99, 0}, {4, 3, 2, 1}};
        for (int k = 0; k < 2; k++) {
            for (int what = 0; what < 4; what++) {
                DUE.due("code(0, " + k + ", " + what + ")", x.code(0, k, what), due[k][what]);
            }
        }
        DUE.due("code(0, 2, 0)", x.code(0, 2, 0), BAD);
        DUE.due("code(0, -1, 0)", x.code(0, -1, 0), BAD);
        DUE.due("code(0, 0, 4)", x.code(0, 0, 4), BAD);
        DUE.due("code(0, 0, -1)", x.code(0, 0, -1), BAD);
        DUE.due("code(1, 0, 0)", x.code(1, 0, 0), BAD);
        DUE.due("code(2, 0, 0)", x.code(2, 0, 0), BAD);
        DUE.due("code(-1, 0, 0)", x.code(-1, 0, 0), BAD);
        DUE.due("code(0, max, 0)", x.code(0, Integer.MAX_VALUE, 0), BAD);
    }
}
