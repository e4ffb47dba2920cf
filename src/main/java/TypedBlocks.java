/**
 * Blocks of code whose labels tell what they want in registers and on the stack; each block is
 * checked alone, and joined to others where it jumps. The document's promises say what each call
 * answers.
 */
public final class TypedBlocks {
    public static final int BAD = -1, NO = -2, FULL = -3, NONE = -4;

    private static final int ANY = 0, WORD = 1, TUPLE = 2, CODE = 6, TYPES = 10;
    /** A tuple of which not all fields are set: this, 8 times its sort and the bits of the set fields. */
    private static final int PARTIAL = 10, PARTIAL_STEP = 8;

    private static final int REGISTERS = 4, LINK = 3;
    private static final int MAX_SORTS = 4, MAX_FIELDS = 3;
    private static final int MAX_LABELS = 4, MAX_WANTED = 3, MAX_INSTRUCTIONS = 6;
    private static final int MAX_LETTERS = 200, MAX_UNDONE = 8, MAX_KEPT = 2;
    private static final int MAX_W = 99, MAX_STEPS = 200, MAX_Z = 9999, MAX_DRAWS = 20;

    private static final int MOVE = 0, SET = 1, ADD = 2, NEW = 3, PUT = 4, GET = 5, PUSH = 6;
    private static final int POP = 7, LABEL = 8, JUMP = 9, IF = 10, CALL = 11, BACK = 12, HALT = 13;
    private static final int INSTRUCTION_KINDS = 14;
    private static final int PARTS = 4;

    private static final int NOTHING = 0, REGISTER = 1, NUMBER = 2, SORT = 3, FIELD = 4, TARGET = 5;
    /** What X, Y, Z of each kind of instruction are. */
    private static final int[] OPERANDS = {
        REGISTER, REGISTER, NOTHING,
        REGISTER, NUMBER, NOTHING,
        REGISTER, REGISTER, NOTHING,
        REGISTER, SORT, NOTHING,
        REGISTER, FIELD, REGISTER,
        REGISTER, REGISTER, FIELD,
        REGISTER, NOTHING, NOTHING,
        REGISTER, NOTHING, NOTHING,
        REGISTER, TARGET, NOTHING,
        TARGET, NOTHING, NOTHING,
        REGISTER, TARGET, NOTHING,
        TARGET, TARGET, NOTHING,
        REGISTER, NOTHING, NOTHING,
        NOTHING, NOTHING, NOTHING
    };

    /** The instructions that a day may put. */
    private static final int[] DRAWN = {MOVE, SET, ADD, PUSH, POP};

    private static final String FIRST =
        "s00;s10;l1111,,0;i3,1,0,0;i4,1,0,0;i4,1,1,2;i6,1,0,0;i11,1,2,0;l1018,2,1;i7,1,0,0;i5,0,1,0;i2,0,2,0;i12,3,0,0;l1000,,1;i13,0,0,0;";

    private final Text text = new Text();
    private final Program now = new Program();
    private final Program trial = new Program();
    private final Checker checker = new Checker();
    private final Machine machine = new Machine();
    private final Shelf undoable = new Shelf(MAX_UNDONE);
    private final Shelf kept = new Shelf(MAX_KEPT);

    public TypedBlocks() {
        for (int i = 0; i < FIRST.length(); i++) {
            text.append(FIRST.charAt(i));
        }
        text.readAll();
        now.copyFrom(text.told.cells);
        text.length = 0;
    }

    // ---- programs

    public int write(int letter) {
        if (letter < 32 || letter > 126) {
            return BAD;
        }
        return text.append(letter) ? text.length : FULL;
    }

    public int wipe() {
        int was = text.length;
        text.length = 0;
        return was;
    }

    public int fault() {
        return text.readAll();
    }

    public int lay() {
        if (text.readAll() != NONE || !text.isClosed()) {
            return NO;
        }
        now.copyFrom(text.told.cells);
        undoable.clear();
        kept.clear();
        return now.labels();
    }

    public int sort(int t, int f) {
        if (!now.hasSort(t) || f < -1 || f >= now.fields(t)) {
            return BAD;
        }
        return f == -1 ? now.fields(t) : now.fieldType(t, f);
    }

    public int label(int l, int what) {
        if (!now.hasLabel(l) || what < 0 || what > 9) {
            return BAD;
        }
        if (what >= 5 && what <= 7 && what - 5 >= now.wantedHeight(l)) {
            return BAD;
        }
        return now.labelCell(l, what);
    }

    public int code(int l, int k, int what) {
        if (!now.hasInstruction(l, k) || what < 0 || what >= PARTS) {
            return BAD;
        }
        return now.part(l, k, what);
    }

    // ---- acts

    public int put(int l, int k, int c, int x, int y, int z) {
        if (!now.hasInstruction(l, k) || !now.allows(c, x, y, z)) {
            return BAD;
        }
        int was = now.part(l, k, 0);
        if (was == c && now.part(l, k, 1) == x && now.part(l, k, 2) == y && now.part(l, k, 3) == z) {
            return NO;
        }
        undoable.hold(now.cells);
        now.setInstruction(l, k, c, x, y, z);
        return was;
    }

    public int add(int l, int k, int c, int x, int y, int z) {
        if (!now.hasLabel(l) || k < 0 || k > now.size(l) || !now.allows(c, x, y, z)) {
            return BAD;
        }
        if (now.size(l) >= MAX_INSTRUCTIONS) {
            return FULL;
        }
        undoable.hold(now.cells);
        now.makeRoom(l, k);
        now.setInstruction(l, k, c, x, y, z);
        return now.size(l);
    }

    public int cut(int l, int k) {
        if (!now.hasInstruction(l, k)) {
            return BAD;
        }
        undoable.hold(now.cells);
        now.takeOut(l, k);
        return now.size(l);
    }

    public int want(int l, int r, int type) {
        if (!now.hasLabel(l) || r < 0 || r >= REGISTERS || !now.hasType(type)) {
            return BAD;
        }
        int was = now.wanted(l, r);
        if (was == type) {
            return NO;
        }
        undoable.hold(now.cells);
        now.setWanted(l, r, type);
        return was;
    }

    public int below(int l, int any) {
        if (!now.hasLabel(l) || any < 0 || any > 1) {
            return BAD;
        }
        if (now.openBelow(l) == any) {
            return NO;
        }
        undoable.hold(now.cells);
        now.setOpenBelow(l, any);
        return 1;
    }

    public int undo() {
        if (undoable.held == 0) {
            return NO;
        }
        undoable.giveBack(now);
        return undoable.held;
    }

    // ---- checked

    public int check(int l) {
        if (!now.hasLabel(l)) {
            return BAD;
        }
        checker.take(now);
        return checker.isSure(l) ? NONE : checker.place;
    }

    public int reason(int l) {
        if (!now.hasLabel(l)) {
            return BAD;
        }
        checker.take(now);
        return checker.isSure(l) ? NONE : checker.refusal;
    }

    public int ahead(int l, int k, int what) {
        if (!now.hasLabel(l) || k < 0 || k > now.size(l) || what < 0 || what > 10) {
            return BAD;
        }
        checker.take(now);
        if (!checker.passes(l, k)) {
            return NONE;
        }
        if (what < REGISTERS) {
            return checker.register(what);
        }
        if (what == 4) {
            return checker.height;
        }
        return what - 5 < checker.height ? checker.fromTop(what - 5) : NONE;
    }

    public int sure() {
        checker.take(now);
        return checker.sureBits();
    }

    public int joins(int l) {
        if (!now.hasLabel(l)) {
            return BAD;
        }
        checker.take(now);
        return checker.joinBits(l);
    }

    public int might(int l, int r) {
        if (!now.hasLabel(l) || r < 0 || r >= REGISTERS) {
            return BAD;
        }
        int bits = 0;
        trial.copyFrom(now.cells);
        for (int type = 0; type < TYPES; type++) {
            if (now.hasType(type)) {
                trial.setWanted(l, r, type);
                checker.take(trial);
                if (checker.sureBits() == trial.allLabels()) {
                    bits |= 1 << type;
                }
            }
        }
        return bits;
    }

    public int reached() {
        int bits = 1;
        // One pass more than there are labels: each pass but the last brings one at least.
        for (int pass = 0; pass <= MAX_LABELS; pass++) {
            for (int l = 0; l < now.labels(); l++) {
                if ((bits >> l & 1) == 1) {
                    bits |= now.targets(l);
                }
            }
        }
        return bits;
    }

    public int mends(int l, int what) {
        if (!now.hasLabel(l) || what < 0 || what > 1) {
            return BAD;
        }
        checker.take(now);
        if (checker.isSure(l) || checker.place >= now.size(l)) {
            return NO;
        }
        int place = checker.place;
        int found = 0;
        trial.copyFrom(now.cells);
        checker.take(trial);
        for (int way = 0; way < INSTRUCTION_KINDS * 64; way++) {
            if (mendsBy(l, place, way)) {
                if (what == 1) {
                    return way;
                }
                found++;
            }
        }
        return what == 0 ? found : NONE;
    }

    private boolean mendsBy(int l, int place, int way) {
        int c = way >> 6;
        int x = way >> 4 & 3;
        int y = way >> 2 & 3;
        int z = way & 3;
        if (c == SET && y != 0 || !trial.allows(c, x, y, z)) {
            return false;
        }
        trial.setInstruction(l, place, c, x, y, z);
        return checker.isSure(l);
    }

    // ---- run, days

    public int run(int w, int n, int what) {
        if (w < 0 || w > MAX_W || n < 0 || n > MAX_STEPS || what < 0 || what > 4) {
            return BAD;
        }
        machine.begin(now, w);
        machine.goOn(n);
        switch (what) {
            case 0:
                return machine.how;
            case 1:
                return machine.steps;
            case 2:
                return machine.block;
            case 3:
                return machine.place;
            default:
                return Machine.isWord(machine.register(0)) ? machine.register(0) : NONE;
        }
    }

    public int day(int z, int n, int what) {
        if (z < 0 || z > MAX_Z || n < 1 || n > MAX_DRAWS || what < 0 || what > 1) {
            return BAD;
        }
        trial.copyFrom(now.cells);
        checker.take(trial);
        int bits = 0;
        int allSure = 0;
        for (int k = 0; k < n; k++) {
            change(drawn(z, k));
            bits = checker.sureBits();
            if (bits == trial.allLabels()) {
                allSure++;
            }
        }
        return what == 0 ? Integer.bitCount(bits) : allSure;
    }

    private static int drawn(int z, int k) {
        long x = 7919L * z + 6151L * k + 1;
        return (int) (x * x % 65521);
    }

    private void change(int draw) {
        int labels = trial.labels();
        int l = labels > 0 ? draw % labels : 0;
        int size = trial.size(l);
        if (size <= 0) {
            return;
        }
        int c = DRAWN[draw / 64 % DRAWN.length];
        int first = draw / 512 % REGISTERS;
        int second = draw / 2048 % REGISTERS;
        if (c == SET) {
            second = 1;
        } else if (c == PUSH || c == POP) {
            second = 0;
        }
        trial.setInstruction(l, draw / 8 % size, c, first, second, 0);
    }

    public int keep() {
        if (kept.held >= MAX_KEPT) {
            return FULL;
        }
        kept.hold(now.cells);
        return kept.held;
    }

    public int back() {
        if (kept.held == 0) {
            return NO;
        }
        kept.giveBack(now);
        undoable.clear();
        return kept.held;
    }

    public int count(int what) {
        switch (what) {
            case 0:
                return now.sorts();
            case 1:
                return now.labels();
            case 2:
                return now.instructions();
            case 3:
                checker.take(now);
                return Integer.bitCount(checker.sureBits());
            case 4:
                return undoable.held;
            case 5:
                return kept.held;
            case 6:
                return text.length;
            default:
                return BAD;
        }
    }

    /** Sorts, labels and their instructions, in one row, so that a copy is one move. */
    private static final class Program {
        static final int SORT_COUNT = 0, LABEL_COUNT = 1;
        static final int SORT_CELLS = 1 + MAX_FIELDS;
        static final int SORTS_AT = 2, LABELS_AT = SORTS_AT + MAX_SORTS * SORT_CELLS;
        /** In a label's cells: first the registers that it wants. */
        static final int HEIGHT = 4, WANTED_STACK = 5, OPEN = 8, SIZE = 9, CODE_AT = 10;
        static final int LABEL_CELLS = CODE_AT + MAX_INSTRUCTIONS * PARTS;
        static final int CELLS = LABELS_AT + MAX_LABELS * LABEL_CELLS;

        final int[] cells = new int[CELLS];

        int cell(int at) {
            return at >= 0 && at < CELLS ? cells[at] : 0;
        }

        void setCell(int at, int value) {
            if (at >= 0 && at < CELLS) {
                cells[at] = value;
            }
        }

        void copyFrom(int[] row) {
            if (row != null && row.length == CELLS) {
                System.arraycopy(row, 0, cells, 0, CELLS);
            }
        }

        void empty() {
            for (int i = 0; i < CELLS; i++) {
                cells[i] = 0;
            }
        }

        int sorts() {
            return cells[SORT_COUNT];
        }

        int labels() {
            return cells[LABEL_COUNT];
        }

        int allLabels() {
            return (1 << labels()) - 1;
        }

        boolean hasSort(int t) {
            return t >= 0 && t < sorts();
        }

        boolean hasLabel(int l) {
            return l >= 0 && l < labels();
        }

        boolean hasInstruction(int l, int k) {
            return hasLabel(l) && k >= 0 && k < size(l);
        }

        boolean hasType(int type) {
            if (type < TUPLE) {
                return type >= ANY;
            }
            return type < CODE ? hasSort(type - TUPLE) : hasLabel(type - CODE);
        }

        int fields(int t) {
            return cell(SORTS_AT + t * SORT_CELLS);
        }

        int fieldType(int t, int f) {
            return cell(SORTS_AT + t * SORT_CELLS + 1 + f);
        }

        void addSort() {
            cells[SORT_COUNT]++;
        }

        void addField(int t, int type) {
            int at = SORTS_AT + t * SORT_CELLS;
            int fields = cell(at);
            setCell(at + 1 + fields, type);
            setCell(at, fields + 1);
        }

        void addLabel() {
            cells[LABEL_COUNT]++;
        }

        int labelCell(int l, int what) {
            int at = LABELS_AT + l * LABEL_CELLS + what;
            return at >= 0 && at < CELLS ? cells[at] : 0;
        }

        void setLabelCell(int l, int what, int value) {
            setCell(LABELS_AT + l * LABEL_CELLS + what, value);
        }

        int wanted(int l, int r) {
            return labelCell(l, r);
        }

        void setWanted(int l, int r, int type) {
            setLabelCell(l, r, type);
        }

        int wantedHeight(int l) {
            return labelCell(l, HEIGHT);
        }

        /** The i-th type that a label wants on the stack, the upmost being 0. */
        int wantedFromTop(int l, int i) {
            return labelCell(l, WANTED_STACK + i);
        }

        void addWantedBelow(int l, int type) {
            int height = wantedHeight(l);
            setLabelCell(l, WANTED_STACK + height, type);
            setLabelCell(l, HEIGHT, height + 1);
        }

        int openBelow(int l) {
            return labelCell(l, OPEN);
        }

        void setOpenBelow(int l, int any) {
            setLabelCell(l, OPEN, any);
        }

        int size(int l) {
            return labelCell(l, SIZE);
        }

        int part(int l, int k, int p) {
            return labelCell(l, CODE_AT + k * PARTS + p);
        }

        void setInstruction(int l, int k, int c, int x, int y, int z) {
            int at = LABELS_AT + l * LABEL_CELLS + CODE_AT + k * PARTS;
            setCell(at, c);
            setCell(at + 1, x);
            setCell(at + 2, y);
            setCell(at + 3, z);
        }

        void makeRoom(int l, int k) {
            int size = size(l);
            for (int i = size; i > k; i--) {
                setInstruction(l, i, part(l, i - 1, 0), part(l, i - 1, 1), part(l, i - 1, 2), part(l, i - 1, 3));
            }
            setLabelCell(l, SIZE, size + 1);
        }

        void takeOut(int l, int k) {
            int size = size(l);
            for (int i = k; i < size - 1; i++) {
                setInstruction(l, i, part(l, i + 1, 0), part(l, i + 1, 1), part(l, i + 1, 2), part(l, i + 1, 3));
            }
            setLabelCell(l, SIZE, size - 1);
        }

        int instructions() {
            int many = 0;
            for (int l = 0; l < labels(); l++) {
                many += size(l);
            }
            return many;
        }

        boolean allows(int c, int x, int y, int z) {
            return mayBeTold(c, x, y, z, sorts(), labels());
        }

        static boolean mayBeTold(int c, int x, int y, int z, int sorts, int labels) {
            if (c < 0 || c >= INSTRUCTION_KINDS) {
                return false;
            }
            return x >= 0 && x < choices(c * 3, sorts, labels)
                && y >= 0 && y < choices(c * 3 + 1, sorts, labels)
                && z >= 0 && z < choices(c * 3 + 2, sorts, labels);
        }

        /** How many values, from 0 on, an operand may have. */
        static int choices(int operand, int sorts, int labels) {
            if (operand < 0 || operand >= OPERANDS.length) {
                return 0;
            }
            switch (OPERANDS[operand]) {
                case REGISTER:
                    return REGISTERS;
                case NUMBER:
                    return MAX_W + 1;
                case SORT:
                    return sorts;
                case FIELD:
                    return MAX_FIELDS;
                case TARGET:
                    return labels;
                default:
                    return 1;
            }
        }

        static boolean isTarget(int c, int p) {
            int operand = c * 3 + p - 1;
            return operand >= 0 && operand < OPERANDS.length && OPERANDS[operand] == TARGET;
        }

        /** The labels (bits) that the instructions of a block name. */
        int targets(int l) {
            int bits = 0;
            for (int k = 0; k < size(l); k++) {
                for (int p = 1; p < PARTS; p++) {
                    if (isTarget(part(l, k, 0), p)) {
                        bits |= 1 << part(l, k, p);
                    }
                }
            }
            return bits;
        }

        /** The labels (bits) whose code a label wants in a register or on the stack. */
        int wantedCode(int l) {
            int bits = 0;
            for (int r = 0; r < REGISTERS; r++) {
                bits |= codeBit(wanted(l, r));
            }
            for (int i = 0; i < wantedHeight(l); i++) {
                bits |= codeBit(wantedFromTop(l, i));
            }
            return bits;
        }

        static int codeBit(int type) {
            return type >= CODE && type < CODE + MAX_LABELS ? 1 << (type - CODE) : 0;
        }
    }

    /** Earlier programs, the latest given back first, in rows that are used again. */
    private static final class Shelf {
        private final int[][] rows;
        private int next;
        int held;

        Shelf(int places) {
            rows = new int[places > 0 ? places : 1][Program.CELLS];
        }

        void clear() {
            held = 0;
        }

        /** Where all places are taken, the oldest is lost. */
        void hold(int[] row) {
            if (next < 0 || next >= rows.length || row == null || row.length != Program.CELLS) {
                return;
            }
            System.arraycopy(row, 0, rows[next], 0, Program.CELLS);
            next = next + 1 < rows.length ? next + 1 : 0;
            if (held < rows.length) {
                held++;
            }
        }

        void giveBack(Program program) {
            int last = next > 0 ? next - 1 : rows.length - 1;
            if (held <= 0 || last < 0 || last >= rows.length || program == null) {
                return;
            }
            program.copyFrom(rows[last]);
            next = last;
            held--;
        }
    }

    /** THE TEXT, and the program that it tells up to its first fault. */
    private static final class Text {
        final Program told = new Program();
        private final int[] letters = new int[MAX_LETTERS];
        int length;
        private int at;

        /** Whether there was room for the letter. */
        boolean append(int letter) {
            if (length < 0 || length >= MAX_LETTERS) {
                return false;
            }
            letters[length] = letter;
            length++;
            return true;
        }

        /** The place of the first faulty item, or NONE. */
        int readAll() {
            at = 0;
            told.empty();
            for (int items = 0; items < MAX_LETTERS && at < length; items++) {
                int start = at;
                if (!readItem()) {
                    return start;
                }
            }
            return NONE;
        }

        /** There is a label, and no other is meant than those that are told. */
        boolean isClosed() {
            int meant = 0;
            for (int l = 0; l < told.labels(); l++) {
                meant |= told.targets(l) | told.wantedCode(l);
            }
            return told.labels() > 0 && (meant & ~told.allLabels()) == 0;
        }

        private boolean readItem() {
            int letter = peek();
            at++;
            switch (letter) {
                case 's':
                    return readSort();
                case 'l':
                    return readLabel();
                case 'i':
                    return readInstruction();
                default:
                    return false;
            }
        }

        private boolean readSort() {
            int t = told.sorts();
            if (t >= MAX_SORTS) {
                return false;
            }
            for (int f = 0; f < MAX_FIELDS && isFigure(peek()); f++) {
                int figure = readFigure();
                // Figure 1 is a tuple of sort 0: a sort told ahead has a figure up to t.
                if (figure > t) {
                    return false;
                }
                told.addField(t, figure == 0 ? WORD : TUPLE + figure - 1);
            }
            told.addSort();
            return told.fields(t) > 0 && passes(';');
        }

        private boolean readLabel() {
            int l = told.labels();
            if (l >= MAX_LABELS) {
                return false;
            }
            for (int r = 0; r < REGISTERS; r++) {
                int type = readFigure();
                if (!isTold(type)) {
                    return false;
                }
                told.setWanted(l, r, type);
            }
            if (!passes(',')) {
                return false;
            }
            for (int i = 0; i < MAX_WANTED && isFigure(peek()); i++) {
                int type = readFigure();
                if (!isTold(type)) {
                    return false;
                }
                told.addWantedBelow(l, type);
            }
            if (!passes(',')) {
                return false;
            }
            int open = readNumber();
            told.setOpenBelow(l, open);
            told.addLabel();
            return open >= 0 && open <= 1 && passes(';');
        }

        private boolean readInstruction() {
            int l = told.labels() - 1;
            if (l < 0 || told.size(l) >= MAX_INSTRUCTIONS) {
                return false;
            }
            int c = readNumber();
            boolean parted = passes(',');
            int x = readNumber();
            parted = parted && passes(',');
            int y = readNumber();
            parted = parted && passes(',');
            int z = readNumber();
            parted = parted && passes(';');
            if (!parted || !Program.mayBeTold(c, x, y, z, told.sorts(), MAX_LABELS)) {
                return false;
            }
            int k = told.size(l);
            told.makeRoom(l, k);
            told.setInstruction(l, k, c, x, y, z);
            return true;
        }

        /** Code may be of a label that comes later, a tuple only of a sort told ahead. */
        private boolean isTold(int type) {
            if (type < ANY || type >= TYPES) {
                return false;
            }
            return type < TUPLE || type >= CODE || told.hasSort(type - TUPLE);
        }

        private int peek() {
            return at >= 0 && at < length && at < MAX_LETTERS ? letters[at] : -1;
        }

        private static boolean isFigure(int letter) {
            return letter >= '0' && letter <= '9';
        }

        /** The next figure, or -1 where there is none. */
        private int readFigure() {
            int letter = peek();
            if (!isFigure(letter)) {
                return -1;
            }
            at++;
            return letter - '0';
        }

        /** A number of one or two figures, or -1 where there is none. */
        private int readNumber() {
            int first = readFigure();
            if (first < 0) {
                return -1;
            }
            int second = readFigure();
            return second < 0 ? first : first * 10 + second;
        }

        private boolean passes(int letter) {
            if (peek() != letter) {
                return false;
            }
            at++;
            return true;
        }
    }

    /** Checks one block at a time; holds the types as they are where it stands. */
    private static final class Checker {
        static final int MAX_KNOWN = 6;
        static final int NOT_REFUSED = 0, NO_WORD = 1, NO_TUPLE = 2, NO_FIELD = 3, NOT_FOR_FIELD = 4;
        static final int STACK_LIMIT = 5, REGISTERS_UNFIT = 6, STACK_UNFIT = 7, NO_CODE = 8;
        static final int BEHIND_END = 9, NO_END = 10;

        private Program program = new Program();
        private final int[] registers = new int[REGISTERS];
        private final int[] stack = new int[MAX_KNOWN];
        /** For each sort the bits of all its fields. */
        private final int[] allFields = new int[MAX_SORTS];
        /** At p times 4 and q: whether code of label p is enough where code of label q is wanted. */
        private final boolean[] standsFor = new boolean[MAX_LABELS * MAX_LABELS];
        private int open;
        private boolean ended;
        int height;
        int place;
        int refusal;

        /** To be called again when what a label wants has changed. */
        void take(Program other) {
            if (other == null) {
                return;
            }
            program = other;
            for (int p = 0; p < MAX_LABELS; p++) {
                for (int q = 0; q < MAX_LABELS; q++) {
                    standsFor[p * MAX_LABELS + q] = wantsSuffice(q, p);
                }
            }
            for (int t = 0; t < MAX_SORTS; t++) {
                allFields[t] = (1 << program.fields(t)) - 1;
            }
        }

        /** Whether what q wants is enough for p, code being enough for the same alone. */
        private boolean wantsSuffice(int q, int p) {
            int wanted = program.wantedHeight(p);
            if (!heightSuffices(program.wantedHeight(q), program.openBelow(q), wanted, program.openBelow(p))) {
                return false;
            }
            for (int r = 0; r < REGISTERS; r++) {
                if (!isPlainlyEnough(program.wanted(q, r), program.wanted(p, r))) {
                    return false;
                }
            }
            for (int i = 0; i < wanted; i++) {
                if (!isPlainlyEnough(program.wantedFromTop(q, i), program.wantedFromTop(p, i))) {
                    return false;
                }
            }
            return true;
        }

        private static boolean isPlainlyEnough(int has, int wanted) {
            return wanted == ANY || has == wanted;
        }

        /** Each stack told by how many types are known, and 1 if anything may be below. */
        private static boolean heightSuffices(int known, int below, int wanted, int wantedBelow) {
            return wantedBelow == 1 ? known >= wanted : known == wanted && below == 0;
        }

        private boolean isEnough(int has, int wanted) {
            if (isPlainlyEnough(has, wanted)) {
                return true;
            }
            if (!isCode(has) || !isCode(wanted)) {
                return false;
            }
            int at = (has - CODE) * MAX_LABELS + wanted - CODE;
            return at >= 0 && at < standsFor.length && standsFor[at];
        }

        private static boolean isCode(int type) {
            return type >= CODE && type < CODE + MAX_LABELS;
        }

        int register(int r) {
            return r >= 0 && r < REGISTERS ? registers[r] : ANY;
        }

        private void setRegister(int r, int type) {
            if (r >= 0 && r < REGISTERS) {
                registers[r] = type;
            }
        }

        /** The i-th type on the stack, the upmost being 0. */
        int fromTop(int i) {
            int at = height - 1 - i;
            return at >= 0 && at < MAX_KNOWN ? stack[at] : ANY;
        }

        private void begin(int l) {
            for (int r = 0; r < REGISTERS; r++) {
                registers[r] = program.wanted(l, r);
            }
            height = 0;
            for (int i = program.wantedHeight(l) - 1; i >= 0; i--) {
                push(program.wantedFromTop(l, i));
            }
            open = program.openBelow(l);
            ended = false;
            place = 0;
            refusal = NOT_REFUSED;
        }

        /** Whether none of the first instructions is refused; if so, stands behind them. */
        boolean passes(int l, int many) {
            begin(l);
            for (int k = 0; k < many && refusal == NOT_REFUSED; k++) {
                place = k;
                refusal = ended ? BEHIND_END : step(l, k);
            }
            return refusal == NOT_REFUSED;
        }

        boolean isSure(int l) {
            int many = program.size(l);
            if (passes(l, many) && !ended) {
                place = many;
                refusal = NO_END;
            }
            return refusal == NOT_REFUSED;
        }

        int sureBits() {
            int bits = 0;
            for (int l = 0; l < program.labels(); l++) {
                if (isSure(l)) {
                    bits |= 1 << l;
                }
            }
            return bits;
        }

        int joinBits(int l) {
            begin(l);
            int bits = 0;
            for (int m = 0; m < program.labels(); m++) {
                if (jump(m) == NOT_REFUSED) {
                    bits |= 1 << m;
                }
            }
            return bits;
        }

        /** Does one instruction on the types; answers why it is refused. */
        private int step(int l, int k) {
            int x = program.part(l, k, 1);
            int y = program.part(l, k, 2);
            int z = program.part(l, k, 3);
            switch (program.part(l, k, 0)) {
                case MOVE:
                    setRegister(x, register(y));
                    return NOT_REFUSED;
                case SET:
                    setRegister(x, WORD);
                    return NOT_REFUSED;
                case ADD:
                    return register(x) == WORD && register(y) == WORD ? NOT_REFUSED : NO_WORD;
                case NEW:
                    setRegister(x, tuple(y, 0));
                    return NOT_REFUSED;
                case PUT:
                    return setField(x, y, z);
                case GET:
                    return getField(x, y, z);
                case PUSH:
                    return push(register(x)) ? NOT_REFUSED : STACK_LIMIT;
                case POP:
                    return pop(x);
                case LABEL:
                    setRegister(x, CODE + y);
                    return NOT_REFUSED;
                case IF:
                    return register(x) == WORD ? jump(y) : NO_WORD;
                case JUMP:
                    ended = true;
                    return jump(x);
                case CALL:
                    ended = true;
                    setRegister(LINK, CODE + y);
                    return jump(x);
                case BACK:
                    ended = true;
                    return isCode(register(x)) ? jump(register(x) - CODE) : NO_CODE;
                default:
                    ended = true;
                    return register(0) == WORD ? NOT_REFUSED : NO_WORD;
            }
        }

        private int jump(int l) {
            for (int r = 0; r < REGISTERS; r++) {
                if (!isEnough(registers[r], program.wanted(l, r))) {
                    return REGISTERS_UNFIT;
                }
            }
            int wanted = program.wantedHeight(l);
            if (!heightSuffices(height, open, wanted, program.openBelow(l))) {
                return STACK_UNFIT;
            }
            for (int i = 0; i < wanted; i++) {
                if (!isEnough(fromTop(i), program.wantedFromTop(l, i))) {
                    return STACK_UNFIT;
                }
            }
            return NOT_REFUSED;
        }

        private int setField(int d, int f, int a) {
            int type = register(d);
            if (!isTuple(type)) {
                return NO_TUPLE;
            }
            int t = sortOf(type);
            if (f >= program.fields(t)) {
                return NO_FIELD;
            }
            if (!isEnough(register(a), program.fieldType(t, f))) {
                return NOT_FOR_FIELD;
            }
            setRegister(d, tuple(t, fieldsSet(type) | 1 << f));
            return NOT_REFUSED;
        }

        private int getField(int d, int a, int f) {
            int type = register(a);
            if (!isTuple(type)) {
                return NO_TUPLE;
            }
            int t = sortOf(type);
            if (f >= program.fields(t) || (fieldsSet(type) >> f & 1) == 0) {
                return NO_FIELD;
            }
            setRegister(d, program.fieldType(t, f));
            return NOT_REFUSED;
        }

        private boolean push(int type) {
            if (height < 0 || height >= MAX_KNOWN) {
                return false;
            }
            stack[height] = type;
            height++;
            return true;
        }

        private int pop(int d) {
            if (height <= 0) {
                return STACK_LIMIT;
            }
            setRegister(d, fromTop(0));
            height--;
            return NOT_REFUSED;
        }

        private static boolean isTuple(int type) {
            return type >= TUPLE && type < CODE || type >= PARTIAL;
        }

        private static int sortOf(int type) {
            return type < PARTIAL ? type - TUPLE : (type - PARTIAL) / PARTIAL_STEP;
        }

        private int fieldsOf(int t) {
            return t >= 0 && t < MAX_SORTS ? allFields[t] : 0;
        }

        private int fieldsSet(int type) {
            return type < PARTIAL ? fieldsOf(type - TUPLE) : (type - PARTIAL) % PARTIAL_STEP;
        }

        private int tuple(int t, int set) {
            return set == fieldsOf(t) ? TUPLE + t : PARTIAL + t * PARTIAL_STEP + set;
        }
    }

    /** Runs a program without a look at types. */
    private static final class Machine {
        static final int CAN_GO_ON = 0, OVER = 1, STUCK = 2, NO_ROOM = 3;
        static final int MAX_STACK = 16, MAX_NEW = 8, MAX_TUPLES = MAX_SORTS + MAX_NEW;
        static final int WORDS = 10000;
        /** A thing below WORDS is that word; from here on a label; from there on a tuple. */
        static final int LABEL_THING = 10000, TUPLE_THING = 20000, UNSET = -1;

        private Program program = new Program();
        private final int[] registers = new int[REGISTERS];
        private final int[] stack = new int[MAX_STACK];
        private final int[] sortOf = new int[MAX_TUPLES];
        private final int[] fields = new int[MAX_TUPLES * MAX_FIELDS];
        private int height;
        private int tuples;
        int block;
        int place;
        int steps;
        int how;

        void begin(Program other, int w) {
            if (other != null) {
                program = other;
            }
            makeFirstTuples(w);
            for (int r = 0; r < REGISTERS; r++) {
                registers[r] = firstThing(program.wanted(0, r), w);
            }
            height = 0;
            for (int i = program.wantedHeight(0) - 1; i >= 0; i--) {
                push(firstThing(program.wantedFromTop(0, i), w));
            }
            goTo(0);
            steps = 0;
            how = CAN_GO_ON;
        }

        /** One tuple for each sort, whose number is the sort's; new ones come behind all of these. */
        private void makeFirstTuples(int w) {
            for (int t = 0; t < MAX_SORTS; t++) {
                sortOf[t] = t;
                for (int f = 0; f < MAX_FIELDS; f++) {
                    fields[t * MAX_FIELDS + f] = firstThing(program.fieldType(t, f), w);
                }
            }
            tuples = MAX_SORTS;
        }

        private static int firstThing(int type, int w) {
            if (type < TUPLE) {
                return w;
            }
            return type < CODE ? TUPLE_THING + type - TUPLE : LABEL_THING + type - CODE;
        }

        void goOn(int most) {
            for (int i = 0; i < most && how == CAN_GO_ON; i++) {
                how = program.hasInstruction(block, place) ? step() : STUCK;
                if (how == CAN_GO_ON || how == OVER) {
                    steps++;
                }
            }
        }

        private void goTo(int l) {
            block = l;
            place = 0;
        }

        int register(int r) {
            return r >= 0 && r < REGISTERS ? registers[r] : UNSET;
        }

        static boolean isWord(int thing) {
            return thing >= 0 && thing < WORDS;
        }

        private static boolean isLabel(int thing) {
            return thing >= LABEL_THING && thing < TUPLE_THING;
        }

        private int step() {
            int c = program.part(block, place, 0);
            int x = program.part(block, place, 1);
            int y = program.part(block, place, 2);
            int z = program.part(block, place, 3);
            switch (c) {
                case MOVE:
                    return goOnWith(x, register(y));
                case SET:
                    return goOnWith(x, y);
                case ADD:
                    return sum(x, y);
                case NEW:
                    return makeTuple(x, y);
                case PUT:
                    return setField(x, y, z);
                case GET:
                    return getField(x, y, z);
                case PUSH:
                    return push(register(x)) ? goOnBehind() : NO_ROOM;
                case POP:
                    return pop(x);
                case LABEL:
                    return goOnWith(x, LABEL_THING + y);
                default:
                    return leave(c, x, y);
            }
        }

        private int leave(int c, int x, int y) {
            switch (c) {
                case JUMP:
                    return goOnAt(x);
                case IF:
                    if (!isWord(register(x))) {
                        return STUCK;
                    }
                    return register(x) != 0 ? goOnAt(y) : goOnBehind();
                case CALL:
                    registers[LINK] = LABEL_THING + y;
                    return goOnAt(x);
                case BACK:
                    return isLabel(register(x)) ? goOnAt(register(x) - LABEL_THING) : STUCK;
                default:
                    return isWord(register(0)) ? OVER : STUCK;
            }
        }

        private int goOnAt(int l) {
            goTo(l);
            return CAN_GO_ON;
        }

        private int goOnBehind() {
            place++;
            return CAN_GO_ON;
        }

        private int goOnWith(int d, int thing) {
            if (d >= 0 && d < REGISTERS) {
                registers[d] = thing;
            }
            return goOnBehind();
        }

        private int sum(int d, int a) {
            if (!isWord(register(d)) || !isWord(register(a))) {
                return STUCK;
            }
            return goOnWith(d, (register(d) + register(a)) % WORDS);
        }

        private int makeTuple(int d, int t) {
            if (tuples < 0 || tuples >= MAX_TUPLES) {
                return NO_ROOM;
            }
            int made = tuples;
            sortOf[made] = t;
            for (int f = 0; f < MAX_FIELDS; f++) {
                fields[made * MAX_FIELDS + f] = UNSET;
            }
            tuples++;
            return goOnWith(d, TUPLE_THING + made);
        }

        /** Where a field of a tuple is held, or -1 where there is no tuple or no such field. */
        private int fieldAt(int thing, int f) {
            int number = thing - TUPLE_THING;
            if (number < 0 || number >= MAX_TUPLES || f < 0 || f >= program.fields(sortOf[number])) {
                return -1;
            }
            return number * MAX_FIELDS + f;
        }

        private int setField(int d, int f, int a) {
            int at = fieldAt(register(d), f);
            if (at < 0 || at >= fields.length) {
                return STUCK;
            }
            fields[at] = register(a);
            return goOnBehind();
        }

        private int getField(int d, int a, int f) {
            int at = fieldAt(register(a), f);
            if (at < 0 || at >= fields.length || fields[at] == UNSET) {
                return STUCK;
            }
            return goOnWith(d, fields[at]);
        }

        private boolean push(int thing) {
            if (height < 0 || height >= MAX_STACK) {
                return false;
            }
            stack[height] = thing;
            height++;
            return true;
        }

        private int pop(int d) {
            int top = height - 1;
            if (top < 0 || top >= MAX_STACK) {
                return STUCK;
            }
            height = top;
            return goOnWith(d, stack[top]);
        }
    }
}
