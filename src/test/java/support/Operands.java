/** What X, Y, Z of each instruction are at most; at least they are 0. */
final class Operands {
    static final int KINDS = 14;
    private static final int SORT = -1, LABEL = -2;
    private static final int[][] MOST = {
        {3, 3, 0}, {3, 99, 0}, {3, 3, 0}, {3, SORT, 0}, {3, 2, 3}, {3, 3, 2}, {3, 0, 0}, {3, 0, 0},
        {3, LABEL, 0}, {LABEL, 0, 0}, {3, LABEL, 0}, {LABEL, LABEL, 0}, {3, 0, 0}, {0, 0, 0}
    };

    private Operands() { }

    /** Where there are so many sorts and labels. */
    static int most(int c, int p, int sorts, int labels) {
        int most = MOST[c][p];
        return most == SORT ? sorts - 1 : most == LABEL ? labels - 1 : most;
    }
}
