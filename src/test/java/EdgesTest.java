import java.lang.reflect.Method;
import java.lang.reflect.Modifier;
import java.util.Arrays;
import java.util.Comparator;
import java.util.List;
import java.util.Map;
import java.util.Random;
import java.util.TreeMap;
import java.util.stream.Collectors;

/**
 * Runs of calls whose arguments are ends of what the document names, and just beyond them: whatever
 * the order, no call throws and each answers as Model does. A run is as long as an object is used.
 */
public final class EdgesTest {
    private static final int RUNS = 4000;
    private static final int CALLS = 512;
    private static final int[] SMALL = {-1, 0, 0, 1, 1, 2, 3, 4, 5, 5, 6, 7, 8};
    private static final int[] ENDS = {
        Integer.MIN_VALUE, Integer.MIN_VALUE + 1, -2, 9, 16, 39, 40, 41, 59, 60, 61, 64, 99, 100, 101, 199, 200, 998,
        999, 1000, 9998, 9999, 10000, 999998, 999999, 1000000, Integer.MAX_VALUE - 1, Integer.MAX_VALUE
    };
    private static final long[] WIDE = {
        Long.MIN_VALUE, Long.MAX_VALUE, 127, 128, 255, 256, 32767, 32768, 65535, 65536, 999999, 1000000, 1L << 32, -1, 0
    };
    private static final int[] WORDS = {
        0x77696665, 0x6c616479, 0x3b3b3b3b, 0x20202020, 0x20666f72, 0x20647565, 0x20312032, 0x6d65616e, 0x73203120
    };
    /** A run in which all is refused shows little: so often each call must have answered no finding. */
    private static final int ANSWERED_AT_LEAST = 100;
    private static final Map<String, Integer> ANSWERED = new TreeMap<>();

    private final Random random;
    private final LeftTillCalled x = new LeftTillCalled();
    private final Model model = new Model();
    private final StringBuilder run = new StringBuilder();

    /** Seeds that are neighbours begin alike, so the numbers of runs are spread over all seeds. */
    private EdgesTest(int run) {
        random = new Random(run * 0x9e3779b97f4a7c15L);
    }

    public static void main(String[] args) throws Exception {
        List<Method> calls = Arrays.stream(LeftTillCalled.class.getDeclaredMethods())
            .filter(m -> Modifier.isPublic(m.getModifiers()))
            .sorted(Comparator.comparing(Method::getName))
            .collect(Collectors.toList());
        for (int seed = 0; seed < RUNS; seed++) {
            EdgesTest test = new EdgesTest(seed);
            if (!test.agrees(calls)) {
                System.out.println("run " + seed + ":\n" + test.run);
                System.exit(1);
            }
        }
        System.out.println("class and model agree at the edges in " + RUNS + " runs");
        for (Method m : calls) {
            int answered = ANSWERED.getOrDefault(m.getName(), 0);
            if (answered < ANSWERED_AT_LEAST) {
                System.out.println(m.getName() + " answered no finding only " + answered + " times");
                System.exit(1);
            }
        }
    }

    /** Two sheets seldom come to be alike by themselves. */
    private boolean beginsAlike() {
        boolean same = true;
        for (int s = 0; s < 4; s++) {
            same &= x.sheet(s, 16, 2 + 2 * s) == model.sheet(s, 16, 2 + 2 * s);
        }
        return same;
    }

    private boolean agrees(List<Method> calls) throws Exception {
        if (random.nextBoolean() && !beginsAlike()) {
            return false;
        }
        for (int i = 4; i < CALLS; i++) {
            Method m = calls.get(random.nextInt(calls.size()));
            Object[] given = given(m);
            Object got = m.invoke(x, given);
            Method same = Model.class.getDeclaredMethod(m.getName(), m.getParameterTypes());
            same.setAccessible(true);
            Object want = same.invoke(model, given);
            run.append(m.getName()).append(Arrays.toString(given)).append(" answered ").append(got).append('\n');
            if (((Number) got).longValue() != ((Number) want).longValue()) {
                run.append("   but the model says ").append(want).append('\n');
                return false;
            }
            if (((Number) got).longValue() >= -1000000000) {
                ANSWERED.merge(m.getName(), 1, Integer::sum);
            }
        }
        return true;
    }

    private Object[] given(Method m) {
        Class<?>[] types = m.getParameterTypes();
        Object[] all = new Object[types.length];
        for (int i = 0; i < types.length; i++) {
            if (types[i] == long.class) {
                all[i] = WIDE[random.nextInt(WIDE.length)];
            } else if (m.getName().equals("feed") && i == 0) {
                all[i] = WORDS[random.nextInt(WORDS.length)];
            } else if (m.getName().equals("sheet") && i == 1) {
                all[i] = new int[] {0, 8, 16, 64, 8, 16, 64, 32}[random.nextInt(8)];
            } else {
                // The more arguments, the seldomer a wide one, or hardly a call would get past its findings.
                boolean isWide = random.nextInt(types.length > 3 ? 12 : 3) == 0;
                all[i] = isWide ? ENDS[random.nextInt(ENDS.length)] : SMALL[random.nextInt(SMALL.length)];
            }
        }
        return all;
    }
}
