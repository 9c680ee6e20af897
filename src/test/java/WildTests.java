import java.lang.reflect.InvocationTargetException;
import java.lang.reflect.Method;
import java.lang.reflect.Modifier;
import java.util.Arrays;
import java.util.Comparator;
import java.util.List;
import java.util.Random;
import java.util.Set;

/** Any calls with any arguments: none throws, and status and answer agree. */
public final class WildTests {
    private static final Set<String> WITHOUT_STATUS = Set.of("status", "top", "bottom", "feed", "fault");
    private static final Set<String> MAY_BE_BELOW_0 = Set.of("read", "game");
    private static final int[] ODD = {Integer.MIN_VALUE, Integer.MAX_VALUE, Integer.MAX_VALUE - 1, 31, 32, 60, 61, 64, 127,
        128, 200, 201, 240, 241, 880, 900, 9979, 9980, 9999, 10000};
    private static int wrong;

    public static void main(String[] args) throws Exception {
        int runs = args.length > 0 ? Integer.parseInt(args[0]) : 300;
        Random random = new Random(args.length > 1 ? Long.parseLong(args[1]) : 1);
        List<Method> methods = Arrays.stream(BeastCave.class.getDeclaredMethods())
            .filter(m -> Modifier.isPublic(m.getModifiers())).sorted(Comparator.comparing(Method::toString)).toList();
        for (int run = 0; run < runs && wrong < 10; run++) {
            BeastCave x = run % 3 == 0 ? new BeastCave() : run % 3 == 1 ? Edges.rich() : Edges.full();
            for (int i = 0; i < 350 && wrong < 10; i++) {
                one(x, methods.get(random.nextInt(methods.size())), random);
            }
        }
        System.out.println(wrong == 0 ? runs + " runs of any calls are in order" : wrong + " calls are out of order");
        if (wrong != 0) {
            System.exit(1);
        }
    }

    private static void one(BeastCave x, Method method, Random random) throws Exception {
        Class<?>[] types = method.getParameterTypes();
        Object[] given = new Object[types.length];
        for (int i = 0; i < given.length; i++) {
            given[i] = types[i] == long.class ? (Object) random.nextLong() : (Object) number(random);
        }
        int before = x.status();
        String call = method.getName() + Arrays.toString(given);
        Object got;
        try {
            got = method.invoke(x, given);
        } catch (InvocationTargetException e) {
            fail(call + " throws " + e.getCause());
            return;
        }
        boolean refused = Boolean.FALSE.equals(got) || got instanceof Number n && n.longValue() == BeastCave.NONE;
        int status = x.status();
        if (WITHOUT_STATUS.contains(method.getName())) {
            check(status == before, call + " has a status: " + status);
        } else {
            boolean may = MAY_BE_BELOW_0.contains(method.getName());
            check(status >= 0 && status <= 9 && (status == 0 ? !refused || may : refused), call + ": " + got + " by status " + status);
        }
        check(x.bottom() > 0, "the bottom is " + x.bottom());
    }

    private static int number(Random random) {
        int kind = random.nextInt(20);
        return kind < 13 ? random.nextInt(12) - 2 : kind < 16 ? random.nextInt(1200) - 100
            : kind < 19 ? ODD[random.nextInt(ODD.length)] : random.nextInt();
    }

    private static void check(boolean holds, String what) {
        if (!holds) {
            fail(what);
        }
    }

    private static void fail(String what) {
        wrong++;
        System.out.println(what);
    }
}
