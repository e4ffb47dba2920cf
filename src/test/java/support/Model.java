import java.util.ArrayDeque;
import java.util.ArrayList;
import java.util.Deque;
import java.util.List;
import java.util.regex.Matcher;
import java.util.regex.Pattern;

/** The document told a second time, with lists and copies, to be asked beside the class. */
final class Model {
    static final int BAD = -1, NO = -2, FULL = -3, NONE = -4;
    static final String FIRST = "s00;s10;l1111,,0;i3,1,0,0;i4,1,0,0;i4,1,1,2;i6,1,0,0;i11,1,2,0;"
        + "l1018,2,1;i7,1,0,0;i5,0,1,0;i2,0,2,0;i12,3,0,0;l1000,,1;i13,0,0,0;";
    static final Pattern ITEM = Pattern.compile("s(\\d{1,3});|l(\\d{4}),(\\d{0,3}),(\\d{1,2});"
        + "|i(\\d{1,2}),(\\d{1,2}),(\\d{1,2}),(\\d{1,2});");
    /** d, a: r; w; t; f; l, m: l; a part that is not asked for: 0. */
    static final String[] ASKS = {"rr0", "rw0", "rr0", "rt0", "rfr", "rrf", "r00", "r00", "rl0", "l00", "rl0",
        "ll0", "r00", "000"};

    record Code(int c, int x, int y, int z) { }

    static final class Block {
        final List<Integer> registers = new ArrayList<>();
        final List<Integer> stack = new ArrayList<>();
        boolean open;
        final List<Code> codes = new ArrayList<>();

        Block copy() {
            Block b = new Block();
            b.registers.addAll(registers);
            b.stack.addAll(stack);
            b.open = open;
            b.codes.addAll(codes);
            return b;
        }
    }

    static final class Prog {
        final List<List<Integer>> sorts = new ArrayList<>();
        final List<Block> blocks = new ArrayList<>();

        Prog copy() {
            Prog p = new Prog();
            p.sorts.addAll(sorts);
            for (Block b : blocks) {
                p.blocks.add(b.copy());
            }
            return p;
        }

        boolean hasType(int t) {
            return t >= 0 && (t < 2 || t >= 2 && t < 2 + sorts.size() || t >= 6 && t < 6 + blocks.size());
        }

        boolean fits(char asked, int v, int labels) {
            int most = switch (asked) {
                case 'r' -> 3;
                case 'w' -> 99;
                case 't' -> sorts.size() - 1;
                case 'f' -> 2;
                case 'l' -> labels - 1;
                default -> 0;
            };
            return v >= 0 && v <= most;
        }

        boolean fits(Code i, int labels) {
            if (i.c < 0 || i.c > 13) {
                return false;
            }
            String a = ASKS[i.c];
            return fits(a.charAt(0), i.x, labels) && fits(a.charAt(1), i.y, labels) && fits(a.charAt(2), i.z, labels);
        }

        List<Integer> targets(Code i) {
            List<Integer> all = new ArrayList<>();
            if (ASKS[i.c].charAt(0) == 'l') {
                all.add(i.x);
            }
            if (ASKS[i.c].charAt(1) == 'l') {
                all.add(i.y);
            }
            return all;
        }
    }

    /** A type while a block is checked: of a tuple the fields that are set. */
    record Type(int told, int sort, int set) { }

    static final class Refused extends Exception {
        private static final long serialVersionUID = 1L;
        final int place;
        final int reason;

        Refused(int place, int reason) {
            super(null, null, false, false);
            this.place = place;
            this.reason = reason;
        }
    }

    static final class Check {
        final Prog p;
        final Block b;
        final Type[] r = new Type[4];
        final Deque<Type> s = new ArrayDeque<>();
        boolean ended;

        Check(Prog p, Block b) {
            this.p = p;
            this.b = b;
            for (int i = 0; i < 4; i++) {
                r[i] = type(b.registers.get(i));
            }
            for (int t : b.stack) {
                s.addLast(type(t));
            }
        }

        int full(int sort) {
            return (1 << p.sorts.get(sort).size()) - 1;
        }

        Type type(int t) {
            return t >= 2 && t <= 5 ? new Type(2, t - 2, full(t - 2)) : new Type(t, -1, 0);
        }

        int number(Type t) {
            if (t.told != 2) {
                return t.told;
            }
            return t.set == full(t.sort) ? 2 + t.sort : 10 + 8 * t.sort + t.set;
        }

        boolean enough(Type has, int want) {
            if (want == 0 || has.equals(type(want))) {
                return true;
            }
            return has.told >= 6 && want >= 6 && wantsEnough(p.blocks.get(want - 6), p.blocks.get(has.told - 6));
        }

        static boolean wantsEnough(Block has, Block wants) {
            for (int i = 0; i < 4; i++) {
                int w = wants.registers.get(i);
                if (w != 0 && w != has.registers.get(i)) {
                    return false;
                }
            }
            if (has.stack.size() < wants.stack.size()) {
                return false;
            }
            for (int i = 0; i < wants.stack.size(); i++) {
                int w = wants.stack.get(i);
                if (w != 0 && w != has.stack.get(i)) {
                    return false;
                }
            }
            return wants.open || !has.open && has.stack.size() == wants.stack.size();
        }

        boolean registersEnough(Block wants) {
            for (int i = 0; i < 4; i++) {
                if (!enough(r[i], wants.registers.get(i))) {
                    return false;
                }
            }
            return true;
        }

        boolean stackEnough(Block wants) {
            List<Type> have = new ArrayList<>(s);
            if (have.size() < wants.stack.size()) {
                return false;
            }
            for (int i = 0; i < wants.stack.size(); i++) {
                if (!enough(have.get(i), wants.stack.get(i))) {
                    return false;
                }
            }
            return wants.open || !b.open && have.size() == wants.stack.size();
        }

        void need(boolean is, int k, int reason) throws Refused {
            if (!is) {
                throw new Refused(k, reason);
            }
        }

        void jump(int l, int k) throws Refused {
            need(registersEnough(p.blocks.get(l)), k, 6);
            need(stackEnough(p.blocks.get(l)), k, 7);
        }

        void one(int k) throws Refused {
            Code i = b.codes.get(k);
            need(!ended, k, 9);
            switch (i.c) {
                case 0 -> r[i.x] = r[i.y];
                case 1 -> r[i.x] = type(1);
                case 2 -> need(r[i.x].told == 1 && r[i.y].told == 1, k, 1);
                case 3 -> r[i.x] = new Type(2, i.y, 0);
                case 4 -> {
                    need(r[i.x].told == 2, k, 2);
                    List<Integer> fields = p.sorts.get(r[i.x].sort);
                    need(i.y < fields.size(), k, 3);
                    need(enough(r[i.z], fields.get(i.y)), k, 4);
                    r[i.x] = new Type(2, r[i.x].sort, r[i.x].set | 1 << i.y);
                }
                case 5 -> {
                    need(r[i.y].told == 2, k, 2);
                    List<Integer> fields = p.sorts.get(r[i.y].sort);
                    need(i.z < fields.size() && (r[i.y].set & 1 << i.z) != 0, k, 3);
                    r[i.x] = type(fields.get(i.z));
                }
                case 6 -> {
                    need(s.size() < 6, k, 5);
                    s.addFirst(r[i.x]);
                }
                case 7 -> {
                    need(!s.isEmpty(), k, 5);
                    r[i.x] = s.removeFirst();
                }
                case 8 -> r[i.x] = type(6 + i.y);
                case 9 -> jump(i.x, k);
                case 10 -> {
                    need(r[i.x].told == 1, k, 1);
                    jump(i.y, k);
                }
                case 11 -> {
                    r[3] = type(6 + i.y);
                    jump(i.x, k);
                }
                case 12 -> {
                    need(r[i.x].told >= 6, k, 8);
                    jump(r[i.x].told - 6, k);
                }
                default -> need(r[0].told == 1, k, 1);
            }
            ended = i.c == 9 || i.c >= 11;
        }

        void all() throws Refused {
            for (int k = 0; k < b.codes.size(); k++) {
                one(k);
            }
            need(ended, b.codes.size(), 10);
        }
    }

    private final StringBuilder text = new StringBuilder();
    private Prog now;
    private final Deque<Prog> undo = new ArrayDeque<>();
    private final Deque<Prog> kept = new ArrayDeque<>();
    private Prog read;

    Model() {
        text.append(FIRST);
        lay();
        text.setLength(0);
    }

    int write(int letter) {
        if (letter < 32 || letter > 126) {
            return BAD;
        }
        if (text.length() == 200) {
            return FULL;
        }
        return text.append((char) letter).length();
    }

    int wipe() {
        int n = text.length();
        text.setLength(0);
        return n;
    }

    private boolean item(Matcher m) {
        if (m.group(1) != null) {
            List<Integer> fields = new ArrayList<>();
            for (char d : m.group(1).toCharArray()) {
                if (d > '3' || d - '0' > read.sorts.size()) {
                    return false;
                }
                fields.add(d - '0' + 1);
            }
            read.sorts.add(fields);
            return read.sorts.size() <= 4;
        }
        if (m.group(2) != null) {
            Block b = new Block();
            for (char d : (m.group(2) + m.group(3)).toCharArray()) {
                int t = d - '0';
                if (t >= 2 && t <= 5 && t - 2 >= read.sorts.size()) {
                    return false;
                }
                (b.registers.size() < 4 ? b.registers : b.stack).add(t);
            }
            b.open = Integer.parseInt(m.group(4)) == 1;
            read.blocks.add(b);
            return Integer.parseInt(m.group(4)) <= 1 && read.blocks.size() <= 4;
        }
        Code i = new Code(Integer.parseInt(m.group(5)), Integer.parseInt(m.group(6)), Integer.parseInt(m.group(7)),
            Integer.parseInt(m.group(8)));
        if (read.blocks.isEmpty() || !read.fits(i, 4)) {
            return false;
        }
        Block last = read.blocks.get(read.blocks.size() - 1);
        last.codes.add(i);
        return last.codes.size() <= 6;
    }

    int fault() {
        read = new Prog();
        int at = 0;
        while (at < text.length()) {
            Matcher m = ITEM.matcher(text).region(at, text.length());
            if (!m.lookingAt() || !item(m)) {
                return at;
            }
            at = m.end();
        }
        return NONE;
    }

    int lay() {
        if (fault() != NONE || read.blocks.isEmpty()) {
            return NO;
        }
        int labels = read.blocks.size();
        for (Block b : read.blocks) {
            List<Integer> wants = new ArrayList<>(b.registers);
            wants.addAll(b.stack);
            for (int t : wants) {
                if (t >= 6 + labels) {
                    return NO;
                }
            }
            for (Code i : b.codes) {
                if (!read.fits(i, labels)) {
                    return NO;
                }
            }
        }
        now = read;
        undo.clear();
        kept.clear();
        return labels;
    }

    private boolean no(int l) {
        return l < 0 || l >= now.blocks.size();
    }

    private boolean no(int l, int k) {
        return no(l) || k < 0 || k >= now.blocks.get(l).codes.size();
    }

    int sort(int t, int f) {
        if (t < 0 || t >= now.sorts.size() || f < -1 || f >= now.sorts.get(t).size()) {
            return BAD;
        }
        return f < 0 ? now.sorts.get(t).size() : now.sorts.get(t).get(f);
    }

    int label(int l, int what) {
        if (no(l) || what < 0 || what > 9) {
            return BAD;
        }
        Block b = now.blocks.get(l);
        return switch (what) {
            case 0, 1, 2, 3 -> b.registers.get(what);
            case 4 -> b.stack.size();
            case 5, 6, 7 -> what - 5 < b.stack.size() ? b.stack.get(what - 5) : BAD;
            case 8 -> b.open ? 1 : 0;
            default -> b.codes.size();
        };
    }

    int code(int l, int k, int what) {
        if (no(l, k) || what < 0 || what > 3) {
            return BAD;
        }
        Code i = now.blocks.get(l).codes.get(k);
        return what == 0 ? i.c : what == 1 ? i.x : what == 2 ? i.y : i.z;
    }

    private void act() {
        undo.push(now.copy());
        if (undo.size() > 8) {
            undo.removeLast();
        }
    }

    int put(int l, int k, int c, int x, int y, int z) {
        Code i = new Code(c, x, y, z);
        if (no(l, k) || !now.fits(i, now.blocks.size())) {
            return BAD;
        }
        if (now.blocks.get(l).codes.get(k).equals(i)) {
            return NO;
        }
        act();
        return now.blocks.get(l).codes.set(k, i).c;
    }

    int add(int l, int k, int c, int x, int y, int z) {
        Code i = new Code(c, x, y, z);
        if (no(l) || k != now.blocks.get(l).codes.size() && no(l, k) || !now.fits(i, now.blocks.size())) {
            return BAD;
        }
        if (now.blocks.get(l).codes.size() == 6) {
            return FULL;
        }
        act();
        now.blocks.get(l).codes.add(k, i);
        return now.blocks.get(l).codes.size();
    }

    int cut(int l, int k) {
        if (no(l, k)) {
            return BAD;
        }
        act();
        now.blocks.get(l).codes.remove(k);
        return now.blocks.get(l).codes.size();
    }

    int want(int l, int r, int type) {
        if (no(l) || r < 0 || r > 3 || !now.hasType(type)) {
            return BAD;
        }
        if (now.blocks.get(l).registers.get(r) == type) {
            return NO;
        }
        act();
        return now.blocks.get(l).registers.set(r, type);
    }

    int below(int l, int any) {
        if (no(l) || any < 0 || any > 1) {
            return BAD;
        }
        if (now.blocks.get(l).open == (any == 1)) {
            return NO;
        }
        act();
        now.blocks.get(l).open = any == 1;
        return 1;
    }

    int undo() {
        if (undo.isEmpty()) {
            return NO;
        }
        now = undo.pop();
        return undo.size();
    }

    private static Refused refused(Prog p, int l) {
        try {
            new Check(p, p.blocks.get(l)).all();
            return null;
        } catch (Refused e) {
            return e;
        }
    }

    private static int sure(Prog p) {
        int bits = 0;
        for (int l = 0; l < p.blocks.size(); l++) {
            bits |= refused(p, l) == null ? 1 << l : 0;
        }
        return bits;
    }

    private static boolean allSure(Prog p) {
        return Integer.bitCount(sure(p)) == p.blocks.size();
    }

    int check(int l) {
        if (no(l)) {
            return BAD;
        }
        Refused e = refused(now, l);
        return e == null ? NONE : e.place;
    }

    int reason(int l) {
        if (no(l)) {
            return BAD;
        }
        Refused e = refused(now, l);
        return e == null ? NONE : e.reason;
    }

    int ahead(int l, int k, int what) {
        if (no(l) || k < 0 || k > now.blocks.get(l).codes.size() || what < 0 || what > 10) {
            return BAD;
        }
        Check c = new Check(now, now.blocks.get(l));
        try {
            for (int i = 0; i < k; i++) {
                c.one(i);
            }
        } catch (Refused e) {
            return NONE;
        }
        if (what < 4) {
            return c.number(c.r[what]);
        }
        List<Type> s = new ArrayList<>(c.s);
        return what == 4 ? s.size() : what - 5 < s.size() ? c.number(s.get(what - 5)) : NONE;
    }

    int sure() {
        return sure(now);
    }

    int joins(int l) {
        if (no(l)) {
            return BAD;
        }
        Check c = new Check(now, now.blocks.get(l));
        int bits = 0;
        for (int m = 0; m < now.blocks.size(); m++) {
            Block b = now.blocks.get(m);
            bits |= c.registersEnough(b) && c.stackEnough(b) ? 1 << m : 0;
        }
        return bits;
    }

    int might(int l, int r) {
        if (no(l) || r < 0 || r > 3) {
            return BAD;
        }
        int bits = 0;
        for (int t = 0; t < 10; t++) {
            if (now.hasType(t)) {
                Prog p = now.copy();
                p.blocks.get(l).registers.set(r, t);
                bits |= allSure(p) ? 1 << t : 0;
            }
        }
        return bits;
    }

    int reached() {
        int bits = 0;
        Deque<Integer> open = new ArrayDeque<>();
        open.push(0);
        while (!open.isEmpty()) {
            int l = open.pop();
            if ((bits & 1 << l) == 0) {
                bits |= 1 << l;
                for (Code i : now.blocks.get(l).codes) {
                    open.addAll(now.targets(i));
                }
            }
        }
        return bits;
    }

    int mends(int l, int what) {
        if (no(l) || what < 0 || what > 1) {
            return BAD;
        }
        Refused e = refused(now, l);
        if (e == null || e.reason == 10) {
            return NO;
        }
        List<Integer> ways = new ArrayList<>();
        for (int c = 0; c < 14; c++) {
            for (int x = 0; x < 4; x++) {
                for (int y = 0; y < (c == 1 ? 1 : 4); y++) {
                    for (int z = 0; z < 4; z++) {
                        Prog p = now.copy();
                        Code i = new Code(c, x, y, z);
                        if (now.fits(i, now.blocks.size())) {
                            p.blocks.get(l).codes.set(e.place, i);
                            if (refused(p, l) == null) {
                                ways.add(((c * 4 + x) * 4 + y) * 4 + z);
                            }
                        }
                    }
                }
            }
        }
        return what == 0 ? ways.size() : ways.isEmpty() ? NONE : ways.get(0);
    }

    /** A thing of the machine: an Integer is a word, a String a label's name, a Box a tuple. */
    static final class Box {
        final Object[] fields;

        Box(int n) {
            fields = new Object[n];
        }
    }

    private Object first(int type, int w, Box[] boxes) {
        return type < 2 ? (Object) w : type < 6 ? boxes[type - 2] : Integer.toString(type - 6);
    }

    int run(int w, int n, int what) {
        if (w < 0 || w > 99 || n < 0 || n > 200 || what < 0 || what > 4) {
            return BAD;
        }
        Box[] boxes = new Box[4];
        for (int t = 0; t < now.sorts.size(); t++) {
            boxes[t] = new Box(now.sorts.get(t).size());
            for (int f = 0; f < boxes[t].fields.length; f++) {
                boxes[t].fields[f] = first(now.sorts.get(t).get(f), w, boxes);
            }
        }
        Object[] r = new Object[4];
        Deque<Object> s = new ArrayDeque<>();
        for (int i = 0; i < 4; i++) {
            r[i] = first(now.blocks.get(0).registers.get(i), w, boxes);
        }
        for (int t : now.blocks.get(0).stack) {
            s.addLast(first(t, w, boxes));
        }
        int how = 0;
        int steps = 0;
        int l = 0;
        int k = 0;
        int made = 0;
        while (steps < n && how == 0) {
            if (k == now.blocks.get(l).codes.size()) {
                how = 2;
                break;
            }
            Code i = now.blocks.get(l).codes.get(k);
            int to = -1;
            switch (i.c) {
                case 0 -> r[i.x] = r[i.y];
                case 1 -> r[i.x] = i.y;
                case 2 -> {
                    if (r[i.x] instanceof Integer d && r[i.y] instanceof Integer a) {
                        r[i.x] = (d + a) % 10000;
                    } else {
                        how = 2;
                    }
                }
                case 3 -> {
                    if (made == 8) {
                        how = 3;
                    } else {
                        made++;
                        r[i.x] = new Box(now.sorts.get(i.y).size());
                    }
                }
                case 4 -> {
                    if (r[i.x] instanceof Box b && i.y < b.fields.length) {
                        b.fields[i.y] = r[i.z];
                    } else {
                        how = 2;
                    }
                }
                case 5 -> {
                    if (r[i.y] instanceof Box b && i.z < b.fields.length && b.fields[i.z] != null) {
                        r[i.x] = b.fields[i.z];
                    } else {
                        how = 2;
                    }
                }
                case 6 -> {
                    if (s.size() == 16) {
                        how = 3;
                    } else {
                        s.addFirst(r[i.x]);
                    }
                }
                case 7 -> {
                    if (s.isEmpty()) {
                        how = 2;
                    } else {
                        r[i.x] = s.removeFirst();
                    }
                }
                case 8 -> r[i.x] = Integer.toString(i.y);
                case 9 -> to = i.x;
                case 10 -> {
                    if (r[i.x] instanceof Integer a) {
                        to = a != 0 ? i.y : -1;
                    } else {
                        how = 2;
                    }
                }
                case 11 -> {
                    r[3] = Integer.toString(i.y);
                    to = i.x;
                }
                case 12 -> {
                    if (r[i.x] instanceof String name) {
                        to = Integer.parseInt(name);
                    } else {
                        how = 2;
                    }
                }
                default -> how = r[0] instanceof Integer ? 1 : 2;
            }
            steps += how < 2 ? 1 : 0;
            if (how == 0) {
                k = to < 0 ? k + 1 : 0;
                l = to < 0 ? l : to;
            }
        }
        int word = r[0] instanceof Integer v ? v : NONE;
        return new int[] {how, steps, l, k, word}[what];
    }

    int day(int z, int n, int what) {
        if (z < 0 || z > 9999 || n < 1 || n > 20 || what < 0 || what > 1) {
            return BAD;
        }
        Prog p = now.copy();
        int all = 0;
        for (int k = 0; k < n; k++) {
            long x = 7919L * z + 6151L * k + 1;
            int draw = (int) (x * x % 65521);
            List<Code> codes = p.blocks.get(draw % p.blocks.size()).codes;
            if (!codes.isEmpty()) {
                int d = draw / 512 % 4;
                int a = draw / 2048 % 4;
                Code i = switch (draw / 64 % 5) {
                    case 0 -> new Code(0, d, a, 0);
                    case 1 -> new Code(1, d, 1, 0);
                    case 2 -> new Code(2, d, a, 0);
                    case 3 -> new Code(6, d, 0, 0);
                    default -> new Code(7, d, 0, 0);
                };
                codes.set(draw / 8 % codes.size(), i);
            }
            all += allSure(p) ? 1 : 0;
        }
        return what == 0 ? Integer.bitCount(sure(p)) : all;
    }

    int keep() {
        if (kept.size() == 2) {
            return FULL;
        }
        kept.push(now.copy());
        return kept.size();
    }

    int back() {
        if (kept.isEmpty()) {
            return NO;
        }
        now = kept.pop();
        undo.clear();
        return kept.size();
    }

    int count(int what) {
        return switch (what) {
            case 0 -> now.sorts.size();
            case 1 -> now.blocks.size();
            case 2 -> now.blocks.stream().mapToInt(b -> b.codes.size()).sum();
            case 3 -> Integer.bitCount(sure());
            case 4 -> undo.size();
            case 5 -> kept.size();
            case 6 -> text.length();
            default -> BAD;
        };
    }
}
