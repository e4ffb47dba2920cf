/** Part 1 of the document and promises 1 to 4: a test for each sentence that names a bound. */
public final class TextBoundsTest {
    private static final int BAD = TypedBlocks.BAD, NO = TypedBlocks.NO, FULL = TypedBlocks.FULL,
        NONE = TypedBlocks.NONE;
    private static final int MIN = Integer.MIN_VALUE, MAX = Integer.MAX_VALUE;
    private static final String BLOCK = "l0000,,0;";
    private static final Due DUE = new Due();
    private static final Twins TWINS = new Twins(DUE);

    public static void main(String[] args) {
        newObject();
        lettersAtMost();
        lastLetterThatIsRead();
        whichLetters();
        badAheadOfFull();
        wiped();
        wipedIsGone();
        wipedWhenFull();
        wipeLeavesTheRest();
        faultOfNothing();
        faultChangesNothing();
        firstFaultyItem();
        unfinishedItem();
        itemsOneBehindTheOther();
        lettersOfItems();
        partedAndEnded();
        figuresOfNumbers();
        fieldsInRow();
        fieldsToldAhead();
        sortsAtMost();
        registersInRow();
        stackInRow();
        upmostAhead();
        nothingOrAnythingBelow();
        labelsAtMost();
        typesToldAhead();
        instructionsAtMost();
        behindTheLabelToldLast();
        kindsOfInstructions();
        operandsOfInstructions();
        operandsNotAskedFor();
        sortOfNewToldAhead();
        DUE.finish();
    }

    private static void fault(String text, int due) {
        DUE.due("fault() of " + text, Due.told(text).fault(), due);
    }

    /** An item behind others that are right: whether it is so, alone, ahead of a right one and of a wrong one. */
    private static void item(String ahead, String item, boolean fits) {
        int place = ahead.length();
        fault(ahead + item, fits ? NONE : place);
        fault(ahead + item + BLOCK, fits ? NONE : place);
        fault(ahead + item + "x;", fits ? place + item.length() : place);
    }

    private static void newObject() {
        DUE.part("1: As told (LAID at first; THE TEXT empty, nothing UNDONE, KEPT)");
        TypedBlocks x = new TypedBlocks();
        TypedBlocks laid = Due.laid(Model.FIRST);
        laid.wipe();
        DUE.holds("a new object is the first text laid", Twins.shown(x).equals(Twins.shown(laid)));
        DUE.due("undo()", x.undo(), NO);
        DUE.due("back()", x.back(), NO);
        DUE.due("fault()", x.fault(), NONE);
        DUE.due("lay()", x.lay(), NO);
        DUE.due("wipe()", x.wipe(), 0);
    }

    /** 200 letters: four labels with 18 instructions. */
    private static String longest() {
        String pushes = "i6,0,0,0;".repeat(4);
        String text = "l0000,,0;" + pushes + "i1,0,99,0;" + "l0000,,0;" + pushes + "l0000,,0;" + pushes + "l0000,,0;"
            + pushes + "i13,0,0,0;";
        if (text.length() != 200) {
            throw new IllegalStateException("it has " + text.length() + " letters");
        }
        return text;
    }

    private static void lettersAtMost() {
        DUE.part("A TEXT is letters (200 at most); write: how long it is; FULL");
        TypedBlocks x = new TypedBlocks();
        for (int i = 1; i <= 200; i++) {
            DUE.due("write, the " + i + "-th", x.write(i % 2 == 0 ? ' ' : '~'), i);
        }
        DUE.due("write, the 201-st", x.write('0'), FULL);
        DUE.due("write, the 202-nd", x.write('0'), FULL);
        DUE.due("count(6)", x.count(6), 200);
        TWINS.same("write behind 200", () -> Due.told(longest()), y -> y.write(';'), FULL);
        TWINS.same("write of a letter that would spoil it", () -> Due.laid(longest()), y -> y.write('x'), FULL);
    }

    private static void lastLetterThatIsRead() {
        DUE.part("A TEXT is letters (200 at most): the 200-th is read, the 201-st is none of it");
        TypedBlocks x = Due.told(longest());
        DUE.due("fault() of 200", x.fault(), NONE);
        DUE.due("lay() of 200", x.lay(), 4);
        DUE.due("count(2)", x.count(2), 18);
        DUE.due("code(3, 4, 0)", x.code(3, 4, 0), 13);
        String other = longest().substring(0, 199) + "x";
        fault(other, 190);
        String tooLong = longest().substring(0, 190) + "i1,0,99,00;";
        DUE.due("letters", tooLong.length(), 201);
        fault(tooLong, 190);
        DUE.due("lay() of 201", Due.told(tooLong).lay(), NO);
    }

    private static void whichLetters() {
        DUE.part("2: A letter (32 to 126); BAD");
        TypedBlocks x = new TypedBlocks();
        int written = 0;
        for (int letter = -2; letter <= 260; letter++) {
            boolean may = letter >= 32 && letter <= 126;
            written += may ? 1 : 0;
            DUE.due("write(" + letter + ")", x.write(letter), may ? written : BAD);
        }
        DUE.due("count(6)", x.count(6), 95);
        for (int letter : new int[] {MIN, MIN + 's', -'s', 31, 127, 's' + 256, 's' + 65536, MAX}) {
            TWINS.sameAnywhere("write(" + letter + ")", y -> y.write(letter), BAD);
        }
    }

    private static void badAheadOfFull() {
        DUE.part("2: BAD; FULL. Of several the first");
        for (int letter : new int[] {MIN, -1, 31, 127, MAX}) {
            TWINS.same("write(" + letter + ") behind 200", () -> Due.told(longest()), y -> y.write(letter), BAD);
        }
    }

    private static void wiped() {
        DUE.part("3: THE TEXT is empty: how long it was");
        TypedBlocks x = new TypedBlocks();
        DUE.due("wipe() of an empty one", x.wipe(), 0);
        x.write('s');
        DUE.due("wipe() of one letter", x.wipe(), 1);
        DUE.due("wipe() again", x.wipe(), 0);
        DUE.due("count(6)", x.count(6), 0);
        Due.retell(x, "s0;x");
        DUE.due("fault()", x.fault(), 3);
        DUE.due("wipe() of four", x.wipe(), 4);
        DUE.due("fault() behind it", x.fault(), NONE);
        DUE.due("lay() behind it", x.lay(), NO);
    }

    private static void wipedIsGone() {
        DUE.part("3: THE TEXT is empty (what was wiped is not the rest of a shorter text)");
        for (String item : new String[] {"s00;", "l0000,111,0;", "i11,0,0,0;"}) {
            TypedBlocks x = new TypedBlocks();
            for (int letters = 1; letters < item.length(); letters++) {
                Due.retell(x, BLOCK + item);
                DUE.due("fault() of " + item, x.fault(), NONE);
                Due.retell(x, BLOCK + item.substring(0, letters));
                DUE.due("fault() of its first " + letters, x.fault(), 9);
            }
        }
    }

    private static void wipedWhenFull() {
        DUE.part("3: how long it was (200), and 200 letters may come again");
        TypedBlocks x = Due.told(longest());
        DUE.due("wipe() of 200", x.wipe(), 200);
        for (int i = 1; i <= 200; i++) {
            DUE.due("write", x.write(' '), i);
        }
        DUE.due("write behind 200", x.write(' '), FULL);
        DUE.due("wipe() of 200", x.wipe(), 200);
    }

    private static void wipeLeavesTheRest() {
        DUE.part("3: THE TEXT is empty (and nothing else)");
        TWINS.alike("wiped behind the acts, or never written", () -> {
            TypedBlocks x = Twins.busy();
            DUE.due("wipe()", x.wipe(), 22);
            return x;
        }, () -> Twins.busy(""));
    }

    private static void faultOfNothing() {
        DUE.part("4: NONE");
        fault("", NONE);
        fault("s0;", NONE);
        fault(Model.FIRST, NONE);
        fault(longest(), NONE);
    }

    private static void faultChangesNothing() {
        DUE.part("4: FAULT (told, not done)");
        TWINS.sameAnywhere("fault()", TypedBlocks::fault, NONE);
        TWINS.same("fault() of a wrong text", () -> Due.told("s0;l2000,,0;x"), TypedBlocks::fault, 12);
    }

    private static void firstFaultyItem() {
        DUE.part("FAULT: the place of the first letter of the first ITEM that is not so");
        fault("x", 0);
        fault("s0;x", 3);
        fault("s0;s9;x", 3);
        fault("s0;s9;s9;", 3);
        fault("s0;s09;", 3);
        fault("s0;s0;l0000,,0;i13,0,0,1;", 15);
        fault("s0;s0;l0000,,0;i13,0,0,0;x", 25);
        // The last place that there can be: the 200-th letter.
        fault("s0;l0000,,0;" + "i6,0,0,0;".repeat(6) + "l0000,,0;" + "i6,0,0,0;".repeat(6) + "l0000,,0;"
            + "i6,0,0,0;".repeat(6) + "l", 192);
        String ahead = longest().substring(0, 190);
        fault(ahead + "s0;s0;s0;x", 199);
    }

    private static void unfinishedItem() {
        DUE.part("FAULT: an ITEM that has no end");
        String[] items = {"s00;", "l0000,111,0;", "i11,0,0,0;"};
        for (String item : items) {
            for (int letters = 1; letters < item.length(); letters++) {
                fault(BLOCK + item.substring(0, letters), 9);
            }
            fault(BLOCK + item, NONE);
        }
    }

    private static void itemsOneBehindTheOther() {
        DUE.part("ITEMS one behind the other");
        fault(" s0;", 0);
        fault("s0; s0;", 3);
        fault("s0;s0; ", 6);
        fault(";", 0);
        fault("s0;;", 3);
        fault("s0;,s0;", 3);
        fault(";s0;", 0);
        for (char between = 32; between <= 126; between++) {
            fault("s0;" + between + "s0;", 3);
            fault("s0;" + between + BLOCK, 3);
        }
    }

    private static void lettersOfItems() {
        DUE.part("each a letter (s, l, i)");
        for (char letter = 32; letter <= 126; letter++) {
            fault("s0;" + BLOCK + letter + "0;", letter == 's' ? NONE : 12);
            fault("s0;" + BLOCK + letter + "0000,,0;", letter == 'l' ? NONE : 12);
            fault("s0;" + BLOCK + letter + "6,0,0,0;", letter == 'i' ? NONE : 12);
        }
    }

    private static void partedAndEnded() {
        DUE.part("then what it tells, parted by , and a ; behind it");
        String[] items = {"s0;", "l0000,0,0;", "i6,0,0,0;"};
        for (String item : items) {
            for (int at = 1; at < item.length(); at++) {
                char sign = item.charAt(at);
                if (sign == ',' || sign == ';') {
                    item(BLOCK, item.substring(0, at) + item.substring(at + 1) + (sign == ';' ? " " : ""), false);
                    item(BLOCK, item.substring(0, at) + (sign == ',' ? ';' : ',') + item.substring(at + 1), false);
                    if (sign == ',') {
                        item(BLOCK, item.substring(0, at) + ",," + item.substring(at + 1), false);
                    }
                    item(BLOCK, item.substring(0, at) + ' ' + item.substring(at), false);
                }
            }
            item(BLOCK, item, true);
        }
        item(BLOCK, "i6,0,0,0,0;", false);
        // Behind two figures a number is at its end, but the , must be there.
        item(BLOCK, "i060,0,0;", false);
        item(BLOCK, "i6,000,0;", false);
        item(BLOCK, "i6,0,000;", false);
        item(BLOCK, "l0000,0,0,0;", false);
        item(BLOCK, "s0,0;", false);
        item(BLOCK, "s,0;", false);
    }

    private static void figuresOfNumbers() {
        DUE.part("numbers: one or two figures");
        String[][] told = {{"i", ",0,0,0;"}, {"i6,", ",0,0;"}, {"i6,0,", ",0;"}, {"i6,0,0,", ";"}, {"l0000,,", ";"}};
        for (String[] t : told) {
            item(BLOCK, t[0] + t[1], false);
            item(BLOCK, t[0] + "0" + t[1], true);
            item(BLOCK, t[0] + "00" + t[1], true);
            item(BLOCK, t[0] + "000" + t[1], false);
            item(BLOCK, t[0] + "-0" + t[1], false);
            item(BLOCK, t[0] + "+0" + t[1], false);
            item(BLOCK, t[0] + "/" + t[1], false);
            item(BLOCK, t[0] + ":" + t[1], false);
            item(BLOCK, t[0] + "0:" + t[1], false);
        }
        item(BLOCK, "i1,0,9,0;", true);
        item(BLOCK, "i1,0,99,0;", true);
        item(BLOCK, "i1,0,100,0;", false);
        item(BLOCK, "i013,0,0,0;", false);
    }

    private static void fieldsInRow() {
        DUE.part("sD: a row of 1 to 3 figures");
        item("", "s;", false);
        item("", "s0;", true);
        item("", "s00;", true);
        item("", "s000;", true);
        item("", "s0000;", false);
        item("", "s0/;", false);
        item("", "s0:;", false);
        item("", "s0 0;", false);
        item("", "s 00;", false);
        item("", "s00 ;", false);
    }

    private static void fieldsToldAhead() {
        DUE.part("sD: 0 a WORD, 1 to 3 a whole TUPLE of SORT 0 to 2, told ahead");
        for (int sorts = 0; sorts < 4; sorts++) {
            String ahead = "s0;".repeat(sorts);
            for (int figure = 0; figure <= 9; figure++) {
                boolean may = figure <= sorts;
                item(ahead, "s" + figure + ";", may);
                item(ahead, "s0" + figure + ";", may);
                item(ahead, "s00" + figure + ";", may);
            }
        }
        TypedBlocks x = Due.laid("s0;s1;s21;s321;" + BLOCK);
        int[][] types = {{1}, {2}, {3, 2}, {4, 3, 2}};
        for (int t = 0; t < 4; t++) {
            for (int f = 0; f < types[t].length; f++) {
                DUE.due("sort(" + t + ", " + f + ")", x.sort(t, f), types[t][f]);
            }
        }
    }

    private static void sortsAtMost() {
        DUE.part("sD: 4 at most, 0, 1, ..");
        fault("s0;s0;s0;s0;", NONE);
        fault("s0;s0;s0;s0;s0;", 12);
        fault("s0;" + BLOCK + "s0;s0;" + BLOCK + "s0;" + BLOCK + "s0;", 39);
        TypedBlocks x = Due.laid("s0;s00;s000;s03;" + BLOCK);
        int[] fields = {1, 2, 3, 2, BAD};
        for (int t = 0; t < fields.length; t++) {
            DUE.due("sort(" + t + ", -1)", x.sort(t, -1), fields[t]);
        }
        DUE.due("count(0)", x.count(0), 4);
    }

    private static void registersInRow() {
        DUE.part("lR,S,O: R a row of four");
        item("", "l,,0;", false);
        item("", "l0,,0;", false);
        item("", "l000,,0;", false);
        item("", "l0000,,0;", true);
        item("", "l00000,,0;", false);
        item("", "l00 0,,0;", false);
        item("", "l00 00,,0;", false);
        item("", "l 0000,,0;", false);
        item("", "l0000 ,,0;", false);
        item("", "l000/,,0;", false);
        item("", "l000:,,0;", false);
        TypedBlocks x = Due.laid("s0;l0126,,0;");
        int[] types = {0, 1, 2, 6};
        for (int r = 0; r < 4; r++) {
            DUE.due("label(0, " + r + ")", x.label(0, r), types[r]);
        }
    }

    private static void stackInRow() {
        DUE.part("lR,S,O: S a row of 0 to 3");
        item("", "l0000,,0;", true);
        item("", "l0000,0,0;", true);
        item("", "l0000,00,0;", true);
        item("", "l0000,000,0;", true);
        item("", "l0000,0000,0;", false);
        item("", "l0000,/,0;", false);
        item("", "l0000,0:,0;", false);
        item("", "l0000, ,0;", false);
        item("", "l0000,0 0,0;", false);
        item("", "l0000, 00,0;", false);
        item("", "l0000,00 ,0;", false);
        for (int height = 0; height <= 3; height++) {
            DUE.due("label(0, 4)", Due.laid("l0000," + "000".substring(3 - height) + ",0;").label(0, 4), height);
        }
    }

    private static void upmostAhead() {
        DUE.part("lR,S,O: S, the upmost ahead");
        TypedBlocks x = Due.laid("s0;l0000,126,0;i7,0,0,0;i7,1,0,0;i7,2,0,0;i13,0,0,0;");
        int[] types = {1, 2, 6};
        for (int i = 0; i < 3; i++) {
            DUE.due("label(0, " + (5 + i) + ")", x.label(0, 5 + i), types[i]);
            DUE.due("ahead(0, 3, " + i + ")", x.ahead(0, 3, i), types[i]);
        }
        DUE.due("run(5, 200, 4)", x.run(5, 200, 4), 5);
    }

    private static void nothingOrAnythingBelow() {
        DUE.part("lR,S,O: below these nothing (O 0) or anything (1)");
        for (int o = 0; o <= 99; o++) {
            item("", "l0000,," + o + ";", o <= 1);
        }
        DUE.due("label(0, 8), O 0", Due.laid("l0000,,0;").label(0, 8), 0);
        DUE.due("label(0, 8), O 1", Due.laid("l0000,,1;").label(0, 8), 1);
    }

    private static void labelsAtMost() {
        DUE.part("lR,S,O: 4 at most, 0, 1, ..");
        fault(BLOCK.repeat(4), NONE);
        fault(BLOCK.repeat(5), 36);
        fault(BLOCK.repeat(4) + "i6,0,0,0;" + BLOCK, 45);
        TypedBlocks x = Due.laid("l0000,,0;l1000,,0;l0100,,0;l0010,,0;");
        for (int l = 0; l < 4; l++) {
            for (int r = 0; r < 4; r++) {
                DUE.due("label(" + l + ", " + r + ")", x.label(l, r), l - 1 == r ? 1 : 0);
            }
        }
    }

    private static void typesToldAhead() {
        DUE.part("lR,S,O: TUPLES of SORTS told ahead, CODE of any LABEL");
        for (int sorts = 0; sorts <= 4; sorts++) {
            String ahead = "s0;".repeat(sorts);
            for (int type = 0; type <= 9; type++) {
                boolean may = type < 2 + sorts || type >= 6;
                for (String item : new String[] {"l?000,,0;", "l0?00,,0;", "l00?0,,0;", "l000?,,0;", "l0000,?,0;",
                    "l0000,0?,0;", "l0000,00?,0;"}) {
                    item(ahead, item.replace('?', (char) ('0' + type)), may);
                }
            }
        }
        // A sort told behind is not told ahead.
        fault("l2000,,0;s0;", 0);
        fault("l0000,,0;s0;l2000,,0;", NONE);
    }

    private static void instructionsAtMost() {
        DUE.part("iC,X,Y,Z: 6 at most");
        String six = BLOCK + "i6,0,0,0;".repeat(6);
        fault(six, NONE);
        fault(six + "i6,0,0,0;", 63);
        fault(six + "s0;i6,0,0,0;", 66);
        fault(six + six, NONE);
        fault(six + six + "i13,0,0,0;", 126);
        DUE.due("label(0, 9) of none", Due.laid(BLOCK).label(0, 9), 0);
        DUE.due("label(0, 9) of six", Due.laid(six).label(0, 9), 6);
    }

    private static void behindTheLabelToldLast() {
        DUE.part("iC,X,Y,Z: behind those of the LABEL told last");
        fault("i13,0,0,0;", 0);
        fault("s0;i13,0,0,0;" + BLOCK, 3);
        TypedBlocks x = Due.laid(BLOCK + "i1,0,1,0;" + BLOCK + "i1,0,2,0;s0;i1,0,3,0;" + BLOCK);
        int[] sizes = {1, 2, 0};
        for (int l = 0; l < 3; l++) {
            DUE.due("label(" + l + ", 9)", x.label(l, 9), sizes[l]);
        }
        DUE.due("code(0, 0, 2)", x.code(0, 0, 2), 1);
        DUE.due("code(1, 0, 2)", x.code(1, 0, 2), 2);
        DUE.due("code(1, 1, 2)", x.code(1, 1, 2), 3);
    }

    private static void kindsOfInstructions() {
        DUE.part("iC,X,Y,Z: C is 0 to 13");
        for (int c = 0; c <= 99; c++) {
            item("s0;" + BLOCK, "i" + c + ",0,0,0;", c <= 13);
        }
    }

    private static void operandsOfInstructions() {
        DUE.part("REGISTERS 0 to 3, LABELS 0 to 3, t a SORT told ahead, f 0 to 2, w 0 to 99");
        for (int c = 0; c < Operands.KINDS; c++) {
            for (int p = 0; p < 3; p++) {
                int most = Operands.most(c, p, 2, 4);
                for (int value : new int[] {0, 1, 2, 3, 4, 9, 10, 98, 99}) {
                    int[] parts = new int[3];
                    parts[p] = value;
                    String item = "i" + c + "," + parts[0] + "," + parts[1] + "," + parts[2] + ";";
                    item("s0;s0;" + BLOCK, item, value <= most);
                }
            }
            String item = "i" + c + "," + Operands.most(c, 0, 2, 4) + "," + Operands.most(c, 1, 2, 4) + ","
                + Operands.most(c, 2, 2, 4) + ";";
            item("s0;s0;" + BLOCK, item, true);
        }
    }

    private static void operandsNotAskedFor() {
        DUE.part("X, Y, Z (each 0 where it is not asked for)");
        String[] told = {"0,3,3,?", "1,3,9,?", "2,3,3,?", "3,3,0,?", "6,3,?,0", "6,3,0,?", "7,3,?,0", "7,3,0,?", "8,3,3,?",
            "9,3,?,0", "9,3,0,?", "10,3,3,?", "11,3,3,?", "12,3,?,0", "12,3,0,?", "13,?,0,0", "13,0,?,0", "13,0,0,?"};
        for (String t : told) {
            item("s0;" + BLOCK, "i" + t.replace("?", "0") + ";", true);
            item("s0;" + BLOCK, "i" + t.replace("?", "1") + ";", false);
            item("s0;" + BLOCK, "i" + t.replace("?", "99") + ";", false);
        }
    }

    private static void sortOfNewToldAhead() {
        DUE.part("NEW d, t: t a SORT told ahead");
        for (int sorts = 0; sorts <= 4; sorts++) {
            for (int t = 0; t <= 5; t++) {
                item("s0;".repeat(sorts) + BLOCK, "i3,0," + t + ",0;", t < sorts);
            }
        }
        fault(BLOCK + "i3,0,0,0;s0;", 9);
        fault(BLOCK + "s0;i3,0,0,0;", NONE);
    }
}
