import java.lang.reflect.Method;
import java.util.Arrays;

/** Every call with numbers at and beyond all bounds, asked of the class and of the model, in several states. */
public final class SweepTest {
    private static final int MIN = Integer.MIN_VALUE, MAX = Integer.MAX_VALUE;
    private static final int[] ONE = {MIN, MIN + 1, -65536, -3, -2, -1, 0, 1, 2, 3, 4, 5, 6, 7, 8, 9, 10, 11, 12, 13, 14, 18, 20,
        21, 31, 32, 33, 99, 100, 125, 126, 127, 128, 199, 200, 201, 256, 9998, 9999, 10000, 65536, MAX - 1, MAX};
    private static final int[] THREE = {MIN, -2, -1, 0, 1, 2, 3, 4, 5, 6, 9, 10, 11, 20, 21, 99, 100, 200, 201, 9999, 10000, MAX};
    private static final int[][] PLACES = {{-1, 0}, {0, -1}, {0, 0}, {0, 4}, {0, 5}, {0, 6}, {1, 3}, {1, 4}, {2, 0}, {2, 1}, {2, 2},
        {3, 0}, {MAX, MIN}};
    private static final int MOST_CALLS = 480;
    private static final Due DUE = new Due();

    private final String[][] state;
    private TypedBlocks x;
    private Model m;
    private int calls;

    private SweepTest(String[][] state) {
        this.state = state;
    }

    public static void main(String[] args) throws ReflectiveOperationException {
        String[][] none = {};
        String[][] half = {{"want", "0", "0", "0"}, {"keep"}, {"cut", "1", "1"}, {"below", "0", "1"}, {"write", "115"}};
        String[][] full = {{"want", "0", "0", "0"}, {"keep"}, {"add", "0", "0", "1", "0", "9", "0"}, {"keep"},
            {"cut", "1", "1"}, {"cut", "2", "0"}, {"below", "0", "1"}, {"below", "2", "0"}, {"want", "2", "3", "8"},
            {"want", "2", "0", "2"}, {"want", "1", "1", "6"}, {"add", "1", "0", "8", "2", "1", "0"}};
        for (String[][] state : new String[][][] {none, half, full}) {
            new SweepTest(state).all();
        }
        DUE.finish();
    }

    private void all() throws ReflectiveOperationException {
        for (Method method : TypedBlocks.class.getDeclaredMethods()) {
            if (!java.lang.reflect.Modifier.isPublic(method.getModifiers())) {
                continue;
            }
            begin();
            switch (method.getParameterCount()) {
                case 0 -> ask(method.getName());
                case 1 -> {
                    for (int a : ONE) {
                        ask(method.getName(), a);
                    }
                }
                case 2 -> two(method.getName());
                case 3 -> three(method.getName());
                default -> instructions(method.getName());
            }
        }
    }

    private void two(String name) throws ReflectiveOperationException {
        for (int a : ONE) {
            for (int b : ONE) {
                ask(name, a, b);
            }
        }
    }

    private void three(String name) throws ReflectiveOperationException {
        for (int a : THREE) {
            for (int b : THREE) {
                for (int c : THREE) {
                    ask(name, a, b, c);
                }
            }
        }
    }

    private void instructions(String name) throws ReflectiveOperationException {
        int[] parts = {-1, 0, 1, 2, 3, 4};
        for (int[] place : PLACES) {
            for (int c = -1; c <= 14; c++) {
                for (int a : parts) {
                    for (int b : parts) {
                        for (int z : parts) {
                            ask(name, place[0], place[1], c, a, b, z);
                        }
                    }
                }
            }
        }
    }

    private void begin() throws ReflectiveOperationException {
        x = new TypedBlocks();
        m = new Model();
        calls = 0;
        for (String[] call : state) {
            int[] numbers = new int[call.length - 1];
            for (int i = 0; i < numbers.length; i++) {
                numbers[i] = Integer.parseInt(call[i + 1]);
            }
            ask(call[0], numbers);
        }
    }

    private void ask(String name, int... numbers) throws ReflectiveOperationException {
        if (calls >= MOST_CALLS) {
            begin();
        }
        calls++;
        Class<?>[] types = new Class<?>[numbers.length];
        Arrays.fill(types, int.class);
        Object[] boxed = Arrays.stream(numbers).boxed().toArray();
        int got = (int) TypedBlocks.class.getDeclaredMethod(name, types).invoke(x, boxed);
        int due = (int) Model.class.getDeclaredMethod(name, types).invoke(m, boxed);
        DUE.due(got == due ? name : name + Arrays.toString(numbers), got, due);
    }
}
