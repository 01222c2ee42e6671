import java.lang.reflect.InvocationTargetException;
import java.lang.reflect.Method;
import java.lang.reflect.Modifier;
import java.util.ArrayList;
import java.util.Comparator;
import java.util.List;
import java.util.Random;

/** No call throws, whatever it is given and whatever was ahead of it; a refused one says NONE or false. */
public final class WildTest {
    private static final int[] EDGES = {Integer.MIN_VALUE, Integer.MAX_VALUE, -2, -1, 0, 1, 2, 3, 4, 5, 6, 7, 8, 9, 10,
        19, 20, 21, 39, 40, 41, 51, 52, 100, 101, 500, 519, 520, 1000, 1001, 5000, 10000, 10001, 100000, 1000000};

    public static void main(String[] args) throws IllegalAccessException {
        Check check = new Check("WildTest");
        List<Method> calls = new ArrayList<>();
        for (Method method : PrairiePool.class.getDeclaredMethods()) {
            if (Modifier.isPublic(method.getModifiers())) {
                calls.add(method);
            }
        }
        calls.sort(Comparator.comparing(Method::getName));
        int runs = args.length > 0 ? Integer.parseInt(args[0]) : 400;
        for (int run = 0; run < runs; run++) {
            Random chance = new Random(run);
            PrairiePool x = new PrairiePool();
            int span = 1 + chance.nextInt(EDGES.length - 1);
            for (int i = 0; i < 512; i++) {
                one(check, x, calls.get(chance.nextInt(calls.size())), chance, span);
            }
        }
        check.end();
    }

    private static int number(Random chance, int span) {
        return chance.nextInt(3) > 0 ? EDGES[chance.nextInt(EDGES.length)] : chance.nextInt(span);
    }

    private static void one(Check check, PrairiePool x, Method call, Random chance, int span)
            throws IllegalAccessException {
        Class<?>[] types = call.getParameterTypes();
        Object[] given = new Object[types.length];
        for (int i = 0; i < types.length; i++) {
            given[i] = types[i] == boolean.class ? chance.nextBoolean()
                    : types[i] == long.class ? (Object) chance.nextLong()
                    : call.getName().equals("feed") ? chance.nextInt() : number(chance, span);
        }
        try {
            Object got = call.invoke(x, given);
            boolean has = !List.of("status", "fault", "feed").contains(call.getName());
            if (has && x.status() != 0) {
                long v = got instanceof Boolean b ? (b ? 1 : -1) : ((Number) got).longValue();
                check.due(call.getName() + " with STATUS " + x.status(), v, -1);
            }
            check.due("STATUS is one there is", x.status() >= 0 && x.status() <= 12, true);
        } catch (InvocationTargetException e) {
            e.getCause().printStackTrace(System.out);
            check.due(call.getName() + " throws", 1, 0);
        }
    }
}
