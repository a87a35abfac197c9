import java.lang.reflect.Method;
import java.lang.reflect.Modifier;
import java.util.Arrays;
import java.util.Comparator;
import java.util.Random;

/**
 * All promises at once: runs of any calls, with right and wrong numbers, in any order, each answer held against the
 * Twin's; and texts with slips in them. The seeds are fixed.
 */
public final class RunsTest {
    private static final int CALLS = 512;
    private static final int[] EDGES = {-2, -1, 7, 8, 9, 20, 21, 30, 31, 39, 40, 41, 60, 61, 120, 121, 128, 255, 32768,
        Due.MOST, Due.LEAST};
    /** Of each call the numbers that mostly are right ones; of those without numbers nothing is told. */
    private static final String[] RIGHT = {"row 0 1 0 1 5 40", "set 0 1 0 8 -1 31", "copy 0 1 0 8 0 1 0 8 0 8", "drop 1 7",
        "feed 32 32 1 1", "far 0 3 0 3", "go 1 4", "rule 1 20 0 20", "visitor 0 11 0 8", "room 0 3 0 1", "seen 1 30 0 2",
        "bestRule 1 15 0 1 0 1", "tickets 0 2 1 15", "oneWay 0 4 1 30", "picture 0 3 1 30 0 1", "hung 1 20 -1 4",
        "counts 0 3 0 1 0 4 1 8", "image 0 1", "restore 0 1", "kind 0 15", "as 0 9 0 5", "ask 0 11 0 1", "trace 0 4",
        "count 0 8"};

    private final MadeUp madeUp;
    private final String name;
    private final RailOfHeads x = new RailOfHeads();
    private final Twin twin = new Twin();
    private int calls;

    private RunsTest(String kind, int seed) {
        madeUp = new MadeUp(new Random(seed));
        name = kind + " " + seed + ": ";
    }

    public static void main(String[] args) throws ReflectiveOperationException {
        int runs = args.length > 0 ? Integer.parseInt(args[0]) : 60;
        for (int seed = 0; seed < runs; seed++) {
            new RunsTest("run", seed).anyCalls();
        }
        for (int seed = 0; seed < 20 * runs; seed++) {
            new RunsTest("texts", seed).texts();
        }
        Due.end();
    }

    private int below(int n) {
        return madeUp.below(n);
    }

    private void call(String method, Object... with) throws ReflectiveOperationException {
        Class<?>[] types = Arrays.stream(with).map(w -> w instanceof Long ? long.class : int.class).toArray(Class<?>[]::new);
        Object due = Twin.class.getDeclaredMethod(method, types).invoke(twin, with);
        Object got = RailOfHeads.class.getMethod(method, types).invoke(x, with);
        calls++;
        Due.is(name + "call " + calls + ", " + method + Arrays.toString(with), (Integer) got, (Integer) due);
    }

    // ---- texts

    private void texts() throws ReflectiveOperationException {
        while (calls + 60 < CALLS) {
            feed(madeUp.houseWithSlips());
            call("house");
            call("fault");
            for (int what = 1; what < 9; what++) {
                call("count", what);
            }
        }
    }

    private void feed(String text) throws ReflectiveOperationException {
        int n;
        for (int from = 0; from < text.length() && calls < CALLS; from += n) {
            n = Math.min(text.length() - from, below(20) == 0 ? 1 + below(8) : 8);
            // what is above the lowest n bytes must not matter
            long w = below(2) - 1;
            for (char c : text.substring(from, from + n).toCharArray()) {
                w = w << 8 | c;
            }
            call("feed", w, n);
        }
    }

    // ---- any calls

    private void anyCalls() throws ReflectiveOperationException {
        Method[] methods = Arrays.stream(RailOfHeads.class.getDeclaredMethods())
                .filter(m -> Modifier.isPublic(m.getModifiers())).toArray(Method[]::new);
        Arrays.sort(methods, Comparator.comparing(Method::getName));
        if (below(4) > 0) {
            readHouse();
        }
        while (calls < CALLS) {
            Method m = methods[below(methods.length)];
            if (m.getName().equals("house") && below(6) > 0) {
                readHouse();
            } else {
                call(m.getName(), numbers(m));
            }
            if (below(2) == 0) {
                call("status");
            }
        }
    }

    private void readHouse() throws ReflectiveOperationException {
        feed(below(5) == 0 ? madeUp.houseWithSlips() : madeUp.house());
        call("house");
        call("fault");
    }

    private Object[] numbers(Method m) {
        Object[] with = new Object[m.getParameterCount()];
        String[] right = Arrays.stream(RIGHT).filter(r -> r.startsWith(m.getName() + " ")).findFirst().orElse("").split(" ");
        Due.is("right numbers of " + m.getName(), right.length, 1 + 2 * with.length);
        for (int i = 0; i < with.length; i++) {
            int number = number(Integer.parseInt(right[2 * i + 1]), Integer.parseInt(right[2 * i + 2]));
            with[i] = m.getParameterTypes()[i] == long.class ? (Object) (long) number : (Object) number;
        }
        return with;
    }

    private int number(int least, int most) {
        switch (below(14)) {
            case 0: return EDGES[below(EDGES.length)];
            case 1: return below(2) == 0 ? least - 1 : most + 1;
            default: return least + below(most - least + 1);
        }
    }
}
