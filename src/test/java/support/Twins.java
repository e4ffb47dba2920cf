/** Two objects brought to the same state: one is asked something, and then both must show the same. */
final class Twins {
    interface State {
        TypedBlocks made();
    }

    interface Call {
        int on(TypedBlocks x);
    }

    private final Due due;

    Twins(Due due) {
        this.due = due;
    }

    /** The call answers so, and nothing has changed behind it. */
    void same(String name, State state, Call call, int answer) {
        due.due(name, call.on(state.made()), answer);
        due.holds(name + " changes nothing", seen(state, x -> 0).equals(seen(state, call)));
    }

    /** Both ways lead to the same. */
    void alike(String name, State one, State other) {
        due.holds(name, seen(one, x -> 0).equals(seen(other, x -> 0)));
    }

    /** The same in a new object, in one with some acts and one program kept, and in one that holds all it can. */
    void sameAnywhere(String name, Call call, int answer) {
        same(name, TypedBlocks::new, call, answer);
        same(name + ", in use", Twins::half, call, answer);
        same(name + ", all held", Twins::busy, call, answer);
    }

    /** Blocks of 5, 3 and 1 instructions, 3 acts that can be undone, 1 kept, and a text that could be laid. */
    static TypedBlocks half() {
        TypedBlocks x = Due.told("s0;l1000,,0;i13,0,0,0;");
        x.want(0, 0, 0);
        x.keep();
        x.cut(1, 1);
        x.below(0, 1);
        return x;
    }

    /** Blocks of 5, 4 and 2 instructions, 8 of 10 acts that can be undone, 2 kept, and a text that could be laid. */
    static TypedBlocks busy() {
        return busy("s0;l1000,,0;i13,0,0,0;");
    }

    static TypedBlocks busy(String text) {
        TypedBlocks x = Due.told(text);
        x.want(0, 0, 0);
        x.keep();
        x.want(0, 1, 0);
        x.put(0, 0, 1, 0, 9, 0);
        x.add(2, 0, 6, 0, 0, 0);
        x.keep();
        x.cut(1, 1);
        x.below(0, 1);
        x.below(2, 0);
        x.put(2, 1, 1, 3, 7, 0);
        x.want(2, 3, 8);
        x.add(1, 0, 8, 2, 1, 0);
        return x;
    }

    /** What it shows now, behind each undo, behind each back, and when its text is laid. */
    private static String seen(State state, Call call) {
        StringBuilder s = new StringBuilder();
        for (int undone = 0; undone <= 9; undone++) {
            TypedBlocks x = asked(state, call);
            for (int i = 0; i < undone; i++) {
                s.append(x.undo()).append(' ');
            }
            s.append(shown(x));
        }
        for (int backs = 1; backs <= 3; backs++) {
            TypedBlocks x = asked(state, call);
            for (int i = 0; i < backs; i++) {
                s.append(x.back()).append(' ');
            }
            s.append(shown(x));
        }
        TypedBlocks x = asked(state, call);
        s.append(x.fault()).append(' ').append(x.lay()).append(' ').append(shown(x));
        return s.toString();
    }

    private static TypedBlocks asked(State state, Call call) {
        TypedBlocks x = state.made();
        call.on(x);
        return x;
    }

    /** The whole program, and all that is counted. */
    static String shown(TypedBlocks x) {
        StringBuilder s = new StringBuilder();
        for (int what = 0; what < 7; what++) {
            s.append(x.count(what)).append(' ');
        }
        return s.append(program(x)).append('\n').toString();
    }

    static String program(TypedBlocks x) {
        StringBuilder s = new StringBuilder();
        for (int t = 0; t < x.count(0); t++) {
            s.append("s ");
            for (int f = -1; f < 3; f++) {
                s.append(x.sort(t, f)).append(' ');
            }
        }
        for (int l = 0; l < x.count(1); l++) {
            s.append("l ");
            for (int what = 0; what < 10; what++) {
                s.append(x.label(l, what)).append(' ');
            }
            for (int k = 0; k < x.label(l, 9); k++) {
                for (int what = 0; what < 4; what++) {
                    s.append(x.code(l, k, what)).append(' ');
                }
            }
            s.append(x.check(l)).append(' ').append(x.reason(l)).append(' ');
        }
        return s.append(x.sure()).append(' ').append(x.reached()).toString();
    }
}
