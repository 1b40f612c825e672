import java.lang.reflect.Method;
import java.lang.reflect.Modifier;
import java.util.Arrays;
import java.util.Comparator;
import java.util.List;
import java.util.Random;
import java.util.stream.Collectors;

/**
 * Runs of calls whose arguments are ends of what the document names, and just beyond them: whatever
 * the order, no call throws and each answers as Model does. A run is as long as an object is used.
 */
public final class EdgesTest {
    private static final int RUNS = 400;
    private static final int CALLS = 512;
    private static final int[] SMALL = {-1, 0, 0, 1, 1, 2, 3, 4, 5, 5, 6, 7, 8};
    private static final int[] ENDS = {
        Integer.MIN_VALUE, Integer.MIN_VALUE + 1, -2, 9, 16, 39, 40, 41, 59, 60, 61, 64, 99, 100, 101, 199, 200, 998,
        999, 1000, 9998, 9999, 10000, 999998, 999999, 1000000, Integer.MAX_VALUE - 1, Integer.MAX_VALUE
    };
    private static final long[] WIDE = {
        Long.MIN_VALUE, Long.MAX_VALUE, 127, 128, 255, 256, 32767, 32768, 65535, 65536, 999999, 1000000, 1L << 32, -1, 0
    };
    private static final int[] WORDS = {
        0x77696665, 0x6c616479, 0x3b3b3b3b, 0x20202020, 0x20666f72, 0x20647565, 0x20312032, 0x6d65616e, 0x73203120
    };
    /** Of the model each of these costs a thousand stations. */
    private static final List<String> DEAR = List.of("enough", "worth");

    private final Random random;
    private final LeftTillCalled x = new LeftTillCalled();
    private final Model model = new Model();
    private final StringBuilder run = new StringBuilder();

    private EdgesTest(long seed) {
        random = new Random(seed);
    }

    public static void main(String[] args) throws Exception {
        List<Method> calls = Arrays.stream(LeftTillCalled.class.getDeclaredMethods())
            .filter(m -> Modifier.isPublic(m.getModifiers()))
            .sorted(Comparator.comparing(Method::getName))
            .collect(Collectors.toList());
        for (int seed = 0; seed < RUNS; seed++) {
            EdgesTest test = new EdgesTest(seed);
            if (!test.agrees(calls)) {
                System.out.println("run " + seed + ":\n" + test.run);
                System.exit(1);
            }
        }
        System.out.println("class and model agree at the edges in " + RUNS + " runs");
    }

    private boolean agrees(List<Method> calls) throws Exception {
        for (int i = 0; i < CALLS; i++) {
            Method m = calls.get(random.nextInt(calls.size()));
            if (DEAR.contains(m.getName()) && random.nextInt(4) != 0) {
                continue;
            }
            Object[] given = given(m);
            Object got = m.invoke(x, given);
            Method same = Model.class.getDeclaredMethod(m.getName(), m.getParameterTypes());
            same.setAccessible(true);
            Object want = same.invoke(model, given);
            run.append(m.getName()).append(Arrays.toString(given)).append(" answered ").append(got).append('\n');
            if (((Number) got).longValue() != ((Number) want).longValue()) {
                run.append("   but the model says ").append(want).append('\n');
                return false;
            }
        }
        return true;
    }

    private Object[] given(Method m) {
        Class<?>[] types = m.getParameterTypes();
        Object[] all = new Object[types.length];
        for (int i = 0; i < types.length; i++) {
            if (types[i] == long.class) {
                all[i] = WIDE[random.nextInt(WIDE.length)];
            } else if (m.getName().equals("feed") && i == 0) {
                all[i] = WORDS[random.nextInt(WORDS.length)];
            } else if (m.getName().equals("sheet") && i == 1) {
                all[i] = new int[] {0, 8, 16, 64, 8, 16, 64, 32}[random.nextInt(8)];
            } else {
                all[i] = random.nextInt(3) == 0 ? ENDS[random.nextInt(ENDS.length)] : SMALL[random.nextInt(SMALL.length)];
            }
        }
        return all;
    }
}
