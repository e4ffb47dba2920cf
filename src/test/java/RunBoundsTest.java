import java.util.Arrays;

/** Part 4 of the document, RUN, and promise 23: a test for each sentence that names a bound. */
public final class RunBoundsTest {
    private static final int BAD = TypedBlocks.BAD, NONE = TypedBlocks.NONE;
    private static final int MIN = Integer.MIN_VALUE, MAX = Integer.MAX_VALUE;
    private static final int GOES = 0, OVER = 1, STUCK = 2, NO_ROOM = 3;
    private static final String HALT = "i13,0,0,0;", BLOCK = "l0000,,1;", SET = "i1,0,4,0;";
    private static final Due DUE = new Due();
    private static final Twins TWINS = new Twins(DUE);

    public static void main(String[] args) {
        numbersOfRun();
        wordsToBeginWith();
        thingsToBeginWith();
        oneOfEachSort();
        stackToBeginWith();
        addModulo();
        wordZero();
        newWithoutFields();
        ifNotZero();
        stuckForWantOfAWord();
        stuckForWantOfATuple();
        stuckForWantOfAField();
        stuckAtAnEmptyStack();
        stuckForWantOfALabel();
        labelOfEach();
        stuckBehindTheLast();
        looksAtNoTypes();
        overAtHalt();
        fullOfTuples();
        fullStack();
        stepsAtMost();
        stepsThatAreNone();
        atWhichLabelAndInstruction();
        wordInRegister0();
        runChangesNothing();
        DUE.finish();
    }

    private static void runs(String text, int w, int n, int... due) {
        TypedBlocks x = Due.laid(text);
        for (int what = 0; what < due.length; what++) {
            DUE.due("run(" + w + ", " + n + ", " + what + ") of " + text, x.run(w, n, what), due[what]);
        }
    }

    private static void numbersOfRun() {
        DUE.part("23: RUN by W (0 to 99), n (0 to 200), what 0 to 4. BAD");
        TypedBlocks x = Due.laid(BLOCK + "i9,0,0,0;");
        for (int w : new int[] {MIN, -1, 0, 1, 98, 99, 100, MAX}) {
            boolean is = w >= 0 && w <= 99;
            DUE.due("run(" + w + ", 0, 4)", x.run(w, 0, 4), is ? w : BAD);
            DUE.due("run(" + w + ", 200, 4)", x.run(w, 200, 4), is ? w : BAD);
        }
        for (int n : new int[] {MIN, -1, 0, 1, 2, 199, 200, 201, MAX}) {
            DUE.due("run(0, " + n + ", 1)", x.run(0, n, 1), n >= 0 && n <= 200 ? n : BAD);
        }
        for (int what : new int[] {MIN, -1, 5, 6, MAX}) {
            DUE.due("run(0, 0, " + what + ")", x.run(0, 0, what), BAD);
        }
        int[] due = {GOES, 0, 0, 0, 7};
        for (int what = 0; what < 5; what++) {
            DUE.due("run(7, 0, " + what + ")", x.run(7, 0, what), due[what]);
        }
    }

    private static void wordsToBeginWith() {
        DUE.part("where LABEL 0 wants ANY or a WORD there is W (0 to 99)");
        for (int w : new int[] {0, 1, 99}) {
            for (int type = 0; type < 2; type++) {
                for (int r = 0; r < 4; r++) {
                    char[] row = "6666".toCharArray();
                    row[r] = (char) ('0' + type);
                    runs("l" + new String(row) + ",,0;i0,0," + r + ",0;" + HALT, w, 200, OVER, 2, 0, 1, w);
                }
            }
        }
    }

    private static void thingsToBeginWith() {
        DUE.part("where CODE that LABEL, where a TUPLE one of that SORT, its FIELDS W, TUPLES alike");
        for (int l = 0; l < 4; l++) {
            StringBuilder text = new StringBuilder("l0" + (6 + l) + "00,,1;i10,0,0,0;i12,1,0,0;");
            text.append("l0000,,1;i1,0,51,0;").append(HALT).append("l0000,,1;i1,0,52,0;").append(HALT)
                .append("l0000,,1;i1,0,53,0;").append(HALT);
            // With W = 0 it does not jump to label 0 again.
            runs(text.toString(), 0, 4, l == 0 ? GOES : OVER, 4, l, l == 0 ? 0 : 1, l == 0 ? 0 : 50 + l);
        }
        String sorts = "s0;s10;s211;s321;";
        runs(sorts + "l2000,,0;i5,0,0,0;" + HALT, 42, 200, OVER, 2, 0, 1, 42);
        runs(sorts + "l3000,,0;i5,0,0,1;" + HALT, 42, 200, OVER, 2, 0, 1, 42);
        runs(sorts + "l3000,,0;i5,0,0,0;i5,0,0,0;" + HALT, 42, 200, OVER, 3, 0, 2, 42);
        runs(sorts + "l4000,,0;i5,0,0,0;i5,0,0,0;i5,0,0,0;" + HALT, 42, 200, OVER, 4, 0, 3, 42);
        runs(sorts + "l5000,,0;i5,0,0,0;i5,0,0,0;i5,0,0,0;i5,0,0,0;" + HALT, 42, 200, OVER, 5, 0, 4, 42);
        runs(sorts + "l5000,,0;i5,0,0,2;i5,0,0,0;" + HALT, 42, 200, OVER, 3, 0, 2, 42);
        // It has such fields as its sort has.
        runs(sorts + "l2000,,0;i5,0,0,1;", 42, 200, STUCK, 0, 0, 0, NONE);
        runs(sorts + "l3000,,0;i5,0,0,2;", 42, 200, STUCK, 0, 0, 0, NONE);
    }

    private static void oneOfEachSort() {
        DUE.part("(one of each SORT for all)");
        // Two registers, a register and the stack, a register and a field hold the same tuple.
        runs("s0;l0220,,0;i1,3,5,0;i4,1,0,3;i5,0,2,0;" + HALT, 42, 200, OVER, 4, 0, 3, 5);
        runs("s0;l0200,2,0;i1,3,5,0;i4,1,0,3;i7,2,0,0;i5,0,2,0;" + HALT, 42, 200, OVER, 5, 0, 4, 5);
        runs("s0;s1;l0230,,0;i4,1,0,3;i5,2,2,0;i5,0,2,0;" + HALT, 42, 200, OVER, 4, 0, 3, 42);
        runs("s0;s1;l0231,,0;i2,3,3,0;i4,1,0,3;i5,2,2,0;i5,0,2,0;" + HALT, 42, 200, OVER, 5, 0, 4, 84);
        // Of another sort it is another one.
        runs("s0;s0;l0230,,0;i1,3,5,0;i4,1,0,3;i5,0,2,0;" + HALT, 42, 200, OVER, 4, 0, 3, 42);
    }

    private static void stackToBeginWith() {
        DUE.part("REGISTERS and the STACK hold what LABEL 0 wants (the upmost ahead; nothing is below)");
        for (int below = 0; below < 2; below++) {
            for (int height = 0; height <= 3; height++) {
                String ahead = "l0000," + "111".substring(3 - height) + "," + below + ";";
                runs(ahead + "i7,0,0,0;".repeat(6), 42, 200, STUCK, height, 0, height, 42);
            }
        }
        runs("s0;l0000,126,0;i7,1,0,0;i7,2,0,0;i7,3,0,0;i2,0,1,0;i5,0,2,0;i12,3,0,0;", 42, 5, GOES, 5, 0, 5, 42);
        runs("s0;l0000,126,0;i7,1,0,0;i7,2,0,0;i7,3,0,0;i2,0,1,0;i5,0,2,0;i12,3,0,0;", 42, 6, GOES, 6, 0, 0, 42);
        runs("s0;l0000,216,0;i7,1,0,0;i2,0,1,0;", 42, 200, STUCK, 1, 0, 1, 42);
    }

    private static void addModulo() {
        DUE.part("WORDS (0 to 9999): ADD modulo 10000");
        // 25 doubled eight times is 6400, nine times 12800.
        String double4 = "i2,0,0,0;".repeat(4);
        runs("l0000,,0;" + double4 + "i9,1,0,0;l0000,,1;" + double4 + HALT, 25, 200, OVER, 10, 1, 4, 6400);
        runs("l0000,,0;" + double4 + "i9,1,0,0;l0000,,1;" + double4 + "i2,0,0,0;" + HALT, 25, 200, OVER, 11, 1, 5, 2800);
        // 8 times and 2 times W together, and that once more: 5000, and 5000 to it is 0.
        String tenfold = "i2,0,0,0;i0,1,0,0;i2,0,0,0;i2,0,0,0;i2,0,1,0;";
        runs("l0000,,0;" + tenfold + "i9,1,0,0;l0000,,1;" + tenfold + "i9,2,0,0;l0000,,1;" + HALT, 50, 200, OVER, 13, 2, 0,
            5000);
        runs("l0000,,0;" + tenfold + "i9,1,0,0;l0000,,1;" + tenfold + "i9,2,0,0;l0000,,1;i2,0,0,0;" + HALT, 50, 200, OVER, 14,
            2, 1, 0);
        // 9900 and W, 99, is the last word, 9999; with one more it is 0, with itself 9998.
        String begin = "l0001,,0;" + tenfold + "i9,1,0,0;l0000,,1;" + tenfold + "i9,2,0,0;l0000,,1;i2,0,3,0;";
        runs(begin + HALT, 99, 200, OVER, 14, 2, 1, 9999);
        runs(begin + "i1,1,1,0;i2,0,1,0;" + HALT, 99, 200, OVER, 16, 2, 3, 0);
        runs(begin + "i2,0,0,0;" + HALT, 99, 200, OVER, 15, 2, 2, 9998);
        runs(begin + "i1,1,0,0;i2,0,1,0;" + HALT, 99, 200, OVER, 16, 2, 3, 9999);
    }

    private static void wordZero() {
        DUE.part("WORDS (0 to 9999): 0 is a WORD, in a FIELD and on the STACK, too");
        runs("s0;l0200,,0;i5,0,1,0;" + HALT, 0, 200, OVER, 2, 0, 1, 0);
        runs("s0;l0000,,0;i3,1,0,0;i4,1,0,2;i1,0,5,0;i5,0,1,0;" + HALT, 0, 200, OVER, 5, 0, 4, 0);
        runs("l0000,,0;i6,1,0,0;i1,0,5,0;i7,0,0,0;i2,0,1,0;" + HALT, 0, 200, OVER, 5, 0, 4, 0);
    }

    private static void newWithoutFields() {
        DUE.part("NEW: no FIELD set");
        for (int f = 0; f < 3; f++) {
            runs("s000;l0000,,0;i3,1,0,0;i5,2,1," + f + ";", 3, 200, STUCK, 1, 0, 1, 3);
            for (int set = 0; set < 3; set++) {
                runs("s000;l0000,,0;i3,1,0,0;i4,1," + set + ",0;i5,2,1," + f + ";" + HALT, 3, 200, f == set ? OVER : STUCK,
                    f == set ? 4 : 2, 0, f == set ? 3 : 2, 3);
            }
        }
        // It has such fields as its sort has, whatever else was made or there at first.
        for (int t = 0; t < 3; t++) {
            for (int f = 0; f < 3; f++) {
                boolean is = f <= 2 - t;
                runs("s000;s00;s0;l0000,,0;i3,1,0,0;i3,2," + t + ",0;i4,2," + f + ",0;" + HALT, 3, 200, is ? OVER : STUCK,
                    is ? 4 : 2, 0, is ? 3 : 2, 3);
                runs("s0;s0;s0;s000;l0000,,0;i3,1," + t + ",0;i3,2,3,0;i4,2," + f + ",0;" + HALT, 3, 200, OVER, 4, 0, 3, 3);
            }
        }
        // Those that were made ahead keep what they have.
        for (int f = 0; f < 3; f++) {
            runs("s000;l1000,,0;i3,1,0,0;i4,1," + f + ",0;i3,2,0,0;i5,3,1," + f + ";i0,0,3,0;" + HALT, 3, 200, OVER, 6, 0, 5,
                3);
            runs("s0;s0;s0;s000;l1500,,0;i3,2,0,0;i5,0,1," + f + ";" + HALT, 3, 200, OVER, 3, 0, 2, 3);
        }
        // The tuple that there is at first is another one.
        runs("s0;l0200,,0;i3,2,0,0;i5,0,1,0;i5,0,2,0;", 3, 200, STUCK, 2, 0, 2, 3);
        // A tuple made once more has nothing set, though a former one had.
        runs("s0;l0000,,0;i3,1,0,0;i4,1,0,0;i3,1,0,0;i5,0,1,0;", 3, 200, STUCK, 3, 0, 3, 3);
    }

    private static void ifNotZero() {
        DUE.part("IF jumps, if a is a WORD that is not 0");
        String text = BLOCK + "i10,0,1,0;" + HALT + BLOCK + HALT;
        runs(text, 0, 200, OVER, 2, 0, 1, 0);
        runs(text, 1, 200, OVER, 2, 1, 0, 1);
        runs(text, 99, 200, OVER, 2, 1, 0, 99);
        // Register a alone is 0, or alone is not, whatever l is.
        for (int r = 0; r < 4; r++) {
            for (int l = 1; l < 4; l++) {
                String labels = HALT + BLOCK + HALT + BLOCK + HALT + BLOCK + HALT;
                runs("l1111,,1;i1," + r + ",0,0;i10," + r + "," + l + ",0;" + labels, 5, 200, OVER, 3, 0, 2, r == 0 ? 0 : 5);
                runs("l1111,,1;i1," + r + ",7,0;i10," + r + "," + l + ",0;" + labels, 0, 200, OVER, 3, l, 0, r == 0 ? 7 : 0);
            }
        }
        // 0 reached by ADD modulo 10000 is 0, too: 5000 and 5000.
        String tenfold = "i2,0,0,0;i0,1,0,0;i2,0,0,0;i2,0,0,0;i2,0,1,0;";
        runs("l0000,,0;" + tenfold + "i9,1,0,0;l0000,,1;" + tenfold + "i9,2,0,0;l0000,,1;i2,0,0,0;i10,0,0,0;" + HALT, 50, 200,
            OVER, 15, 2, 2, 0);
    }

    private static void stuckForWantOfAWord() {
        DUE.part("STUCK, where ADD, IF, HALT find no WORD");
        for (String type : new String[] {"2", "6"}) {
            runs("s0;l" + type + "000,,0;" + HALT, 3, 200, STUCK, 0, 0, 0, NONE);
            runs("s0;l0" + type + "00,,0;" + HALT, 3, 200, OVER, 1, 0, 0, 3);
            runs("s0;l0" + type + "00,,0;" + SET + "i10,1,0,0;", 3, 200, STUCK, 1, 0, 1, 4);
            runs("s0;l0" + type + "00,,0;" + SET + "i2,1,2,0;", 3, 200, STUCK, 1, 0, 1, 4);
            runs("s0;l0" + type + "00,,0;" + SET + "i2,2,1,0;", 3, 200, STUCK, 1, 0, 1, 4);
            runs("s0;l0" + type + "00,,0;" + SET + "i2,1,1,0;", 3, 200, STUCK, 1, 0, 1, 4);
        }
    }

    private static void stuckForWantOfATuple() {
        DUE.part("STUCK, where PUT, GET find no TUPLE");
        for (String type : new String[] {"0", "1", "6"}) {
            runs("s0;l0" + type + "00,,0;i4,1,0,0;", 3, 200, STUCK, 0, 0, 0, 3);
            runs("s0;l0" + type + "00,,0;i5,1,1,0;", 3, 200, STUCK, 0, 0, 0, 3);
        }
        runs("s0;l0200,,0;i4,1,0,0;i5,1,1,0;" + HALT, 3, 200, OVER, 3, 0, 2, 3);
    }

    private static void stuckForWantOfAField() {
        DUE.part("STUCK, where PUT, GET find no such FIELD, GET one not set");
        for (int fields = 1; fields <= 3; fields++) {
            String sort = "s" + "000".substring(3 - fields) + ";";
            for (int f = 0; f <= 2; f++) {
                boolean is = f < fields;
                runs(sort + "l0200,,0;i4,1," + f + ",0;" + HALT, 3, 200, is ? OVER : STUCK, is ? 2 : 0, 0, is ? 1 : 0, 3);
                runs(sort + "l0200,,0;i5,0,1," + f + ";" + HALT, 3, 200, is ? OVER : STUCK, is ? 2 : 0, 0, is ? 1 : 0, 3);
                runs(sort + "l0200,,0;i3,1,0,0;i4,1," + f + ",0;" + HALT, 3, 200, is ? OVER : STUCK, is ? 3 : 1, 0,
                    is ? 2 : 1, 3);
                runs(sort + "l0200,,0;i3,1,0,0;i5,0,1," + f + ";" + HALT, 3, 200, STUCK, 1, 0, 1, 3);
            }
        }
    }

    private static void stuckAtAnEmptyStack() {
        DUE.part("STUCK, where POP finds nothing");
        runs("l0000,,1;i7,0,0,0;", 3, 200, STUCK, 0, 0, 0, 3);
        runs("l0000,1,1;i7,0,0,0;i7,0,0,0;", 3, 200, STUCK, 1, 0, 1, 3);
        runs("l0000,,1;i6,0,0,0;i7,0,0,0;i7,0,0,0;", 3, 200, STUCK, 2, 0, 2, 3);
    }

    private static void stuckForWantOfALabel() {
        DUE.part("STUCK, where BACK finds no LABEL");
        for (int r = 0; r < 4; r++) {
            for (char type : new char[] {'0', '1', '2', '7'}) {
                char[] row = "1111".toCharArray();
                row[r] = type;
                boolean is = type == '7';
                int word = r == 0 && type > '1' ? NONE : 3;
                runs("s0;l" + new String(row) + ",,0;i12," + r + ",0,0;l0000,,1;i9,1,0,0;", 3, 9, is ? GOES : STUCK,
                    is ? 9 : 0, is ? 1 : 0, 0, word);
            }
        }
    }

    private static void labelOfEach() {
        DUE.part("REGISTERS hold LABELS: LABEL d, l, and BACK to it");
        for (int l = 0; l < 4; l++) {
            for (int d = 0; d < 4; d++) {
                // Each other block sets a word of its own; block 0 comes round again.
                StringBuilder text = new StringBuilder("l0000,,0;i8," + d + "," + l + ",0;i12," + d + ",0,0;");
                for (int m = 1; m < 4; m++) {
                    text.append("l0000,,0;i1,0,").append(m).append(",0;").append(HALT);
                }
                runs(text.toString(), 9, 4, l == 0 ? GOES : OVER, 4, l, l == 0 ? 0 : 1, l > 0 ? l : d == 0 ? NONE : 9);
            }
            runs("l0000,,0;i8,0," + l + ",0;" + HALT + BLOCK + BLOCK + BLOCK, 9, 200, STUCK, 1, 0, 1, NONE);
            runs("l0000,,0;i8,1," + l + ",0;i10,1,0,0;" + BLOCK + BLOCK + BLOCK, 9, 200, STUCK, 1, 0, 1, 9);
        }
    }

    private static void stuckBehindTheLast() {
        DUE.part("STUCK, where it comes behind the last INSTRUCTION of a block");
        for (int many = 0; many <= 6; many++) {
            runs("l0000,,0;" + "i1,1,0,0;".repeat(many), 3, 200, STUCK, many, 0, many, 3);
        }
        runs(BLOCK + "i9,1,0,0;" + BLOCK + BLOCK + HALT, 3, 200, STUCK, 1, 1, 0, 3);
        runs(BLOCK + "i10,0,0,0;" + BLOCK + HALT, 0, 200, STUCK, 1, 0, 1, 0);
    }

    private static void looksAtNoTypes() {
        DUE.part("the machine looks at no TYPES");
        // A label into a field of words, a jump without what is wanted, things of all kinds on the stack.
        runs("s0;l0600,,0;i3,2,0,0;i4,2,0,1;i6,2,0,0;i6,1,0,0;i7,3,0,0;i9,1,0,0;l6666,111,0;i5,1,2,0;" + HALT, 3, 200, OVER,
            8, 1, 1, 3);
        // Behind an end it goes on only where a jump leads.
        runs(BLOCK + "i9,1,0,0;" + HALT + BLOCK + HALT + SET, 3, 200, OVER, 2, 1, 0, 3);
    }

    private static void overAtHalt() {
        DUE.part("it is OVER at HALT; how many STEPS were done (HALT is one)");
        for (int many = 0; many <= 5; many++) {
            String text = BLOCK + SET.repeat(many) + HALT;
            int word = many == 0 ? 3 : 4;
            runs(text, 3, many, GOES, many, 0, many, word);
            runs(text, 3, many + 1, OVER, many + 1, 0, many, word);
            runs(text, 3, many + 2, OVER, many + 1, 0, many, word);
            runs(text, 3, 200, OVER, many + 1, 0, many, word);
        }
    }

    private static void fullOfTuples() {
        DUE.part("FULL, where a ninth NEW TUPLE would come");
        String five = "i3,1,0,0;".repeat(5);
        for (int more = 0; more <= 5; more++) {
            String text = "s0;l0220,2,0;" + five + "i9,1,0,0;" + BLOCK + "i3,1,0,0;".repeat(more) + HALT;
            if (more <= 3) {
                runs(text, 3, 200, OVER, 7 + more, 1, more, 3);
            } else {
                runs(text, 3, 200, NO_ROOM, 9, 1, 3, 3);
            }
        }
        // The step that would make it is none, and register 1 stays as it was.
        runs("s0;" + BLOCK + "i3,0,0,0;i9,0,0,0;", 3, 200, NO_ROOM, 16, 0, 0, NONE);
        runs("s0;" + BLOCK + "i3,0,0,0;i9,0,0,0;", 3, 16, GOES, 16, 0, 0, NONE);
        runs("s0;" + BLOCK + "i3,0,0,0;i9,0,0,0;", 3, 17, NO_ROOM, 16, 0, 0, NONE);
        // Of all sorts together; those of the beginning do not count.
        runs("s0;s0;s0;s0;l2345,,1;i3,0,0,0;i3,1,1,0;i3,2,2,0;i3,3,3,0;i9,0,0,0;", 3, 200, NO_ROOM, 10, 0, 0, NONE);
    }

    private static void fullStack() {
        DUE.part("FULL, where a seventeenth thing on the STACK would come");
        for (int height = 0; height <= 3; height++) {
            String text = "l0000," + "111".substring(3 - height) + ",1;i6,0,0,0;i9,0,0,0;";
            int steps = 2 * (16 - height);
            runs(text, 3, 200, NO_ROOM, steps, 0, 0, 3);
            runs(text, 3, steps, GOES, steps, 0, 0, 3);
            runs(text, 3, steps - 1, GOES, steps - 1, 0, 1, 3);
            runs(text, 3, steps + 1, NO_ROOM, steps, 0, 0, 3);
        }
        // What was taken off leaves room for one more.
        String five = "i6,0,0,0;".repeat(5);
        String thirteen = "l0000,111,1;" + five + "i9,1,0,0;" + BLOCK + five + "i9,2,0,0;" + BLOCK;
        runs(thirteen + "i6,0,0,0;i6,0,0,0;i6,0,0,0;i7,1,0,0;i6,0,0,0;" + HALT, 3, 200, OVER, 18, 2, 5, 3);
        runs(thirteen + "i6,0,0,0;i6,0,0,0;i6,0,0,0;i7,1,0,0;i6,0,0,0;i6,0,0,0;", 3, 200, NO_ROOM, 17, 2, 5, 3);
        runs(thirteen + "i6,0,0,0;i6,0,0,0;i6,0,0,0;i6,0,0,0;", 3, 200, NO_ROOM, 15, 2, 3, 3);
    }

    private static void stepsAtMost() {
        DUE.part("n (0 to 200) STEPS at most: 0 it could go on; how many STEPS were done");
        for (int n = 0; n <= 200; n++) {
            runs(BLOCK + "i0,1,1,0;i10,0,0,0;", 3, n, GOES, n, 0, n % 2, 3);
        }
    }

    private static void stepsThatAreNone() {
        DUE.part("(one by which it is STUCK, FULL is none)");
        for (int n = 0; n <= 4; n++) {
            // Two steps, and the third is none; with n of two at most it is not tried.
            runs(BLOCK + SET + SET + "i12,0,0,0;" + HALT, 3, n, n <= 2 ? GOES : STUCK, Math.min(n, 2), 0, Math.min(n, 2),
                n == 0 ? 3 : 4);
            runs(BLOCK + SET + SET, 3, n, n <= 2 ? GOES : STUCK, Math.min(n, 2), 0, Math.min(n, 2), n == 0 ? 3 : 4);
        }
        runs(BLOCK, 3, 0, GOES, 0, 0, 0, 3);
        runs(BLOCK, 3, 1, STUCK, 0, 0, 0, 3);
        // The 21-st step brings the 16-th thing on the stack; the one behind it is none, and up to n = 21 not tried.
        String pushes = BLOCK + "i6,0,0,0;i6,0,0,0;i6,0,0,0;i9,0,0,0;";
        for (int n = 20; n <= 24; n++) {
            runs(pushes, 3, n, n <= 21 ? GOES : NO_ROOM, Math.min(n, 21), 0, Math.min(n, 21) % 4, 3);
        }
    }

    private static void atWhichLabelAndInstruction() {
        DUE.part("at which LABEL; at which INSTRUCTION of it");
        String text = BLOCK + "i11,3,2,0;" + BLOCK + BLOCK + SET + HALT + BLOCK + SET + SET + "i12,3,0,0;";
        int[][] due = {{0, 0}, {3, 0}, {3, 1}, {3, 2}, {2, 0}, {2, 1}, {2, 1}};
        for (int n = 0; n < due.length; n++) {
            runs(text, 3, n, n == 6 ? OVER : GOES, n, due[n][0], due[n][1], n < 2 ? 3 : 4);
        }
        // CALL sets register 3, and no other one.
        runs(BLOCK + "i11,1,2,0;" + BLOCK + "i12,2,0,0;" + BLOCK, 3, 200, STUCK, 1, 1, 0, 3);
    }

    private static void wordInRegister0() {
        DUE.part("the WORD in REGISTER 0 (none: it is no WORD)");
        runs("s0;l2000,,1;", 3, 0, GOES, 0, 0, 0, NONE);
        runs("s0;l6000,,1;", 3, 0, GOES, 0, 0, 0, NONE);
        runs("s0;l1000,,1;", 0, 0, GOES, 0, 0, 0, 0);
        runs("s0;l1000,,1;", 99, 0, GOES, 0, 0, 0, 99);
        runs("s0;" + BLOCK + "i3,0,0,0;", 3, 1, GOES, 1, 0, 1, NONE);
        runs("s0;" + BLOCK + "i8,0,0,0;", 3, 1, GOES, 1, 0, 1, NONE);
        runs("s0;" + BLOCK + "i8,0,0,0;i1,0,0,0;", 3, 2, GOES, 2, 0, 2, 0);
    }

    private static void runChangesNothing() {
        DUE.part("23: RUN (told, not done); BAD: nothing changes then");
        TWINS.same("run(7, 200, 4)", TypedBlocks::new, x -> x.run(7, 200, 4), 14);
        TWINS.same("run(7, 200, 0)", Twins::busy, x -> x.run(7, 200, 0), STUCK);
        int[][] wrong = {{-1, 0, 0}, {100, 0, 0}, {0, -1, 0}, {0, 201, 0}, {0, 0, -1}, {0, 0, 5}, {MIN, MAX, MIN}};
        for (int[] w : wrong) {
            TWINS.sameAnywhere("run" + Arrays.toString(w), x -> x.run(w[0], w[1], w[2]), BAD);
        }
        // A run begins anew each time.
        TypedBlocks x = Due.laid("s0;l0200,,1;i1,3,8,0;i4,1,0,3;i5,0,1,0;" + HALT);
        DUE.due("run(5, 200, 4)", x.run(5, 200, 4), 8);
        DUE.due("run(5, 1, 4)", x.run(5, 1, 4), 5);
        DUE.due("put", x.put(0, 1, 0, 2, 2, 0), 4);
        DUE.due("run(5, 200, 4)", x.run(5, 200, 4), 5);
    }
}
