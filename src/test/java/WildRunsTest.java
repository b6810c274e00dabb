import java.lang.reflect.InvocationTargetException;
import java.lang.reflect.Method;
import java.lang.reflect.Modifier;
import java.util.ArrayList;
import java.util.Comparator;
import java.util.List;

/**
 * Runs of wild calls with any numbers, also far beyond 512: only what a call's face names is ever thrown, and by the
 * class itself, never by the machine.
 */
public final class WildRunsTest {
    private static final int RUNS = 24;
    private static final int CALLS = 6000;
    private static final String[] MAKING = {"box", "plan", "work", "goods", "declare", "batch", "entry", "row", "order",
        "guarantee", "type", "assess"};
    private static final long[] EDGES = {Integer.MIN_VALUE, Integer.MAX_VALUE, Long.MIN_VALUE, Long.MAX_VALUE, 20000,
        10000, 31, -1, 0};
    private static final String SIGNS = "free5%+-(2/A),min(max(step(1:=,";

    private static long seed = 4711;

    public static void main(String[] args) throws IllegalAccessException {
        List<Method> face = new ArrayList<>();
        for (Method m : PortHouse.class.getDeclaredMethods()) {
            if (Modifier.isPublic(m.getModifiers())) {
                face.add(m);
            }
        }
        face.sort(Comparator.comparing(Method::getName));
        for (int run = 0; run < RUNS; run++) {
            Check.topic("wild run " + run);
            oneRun(face);
        }
        Check.end();
    }

    private static int pick(int n) {
        seed = seed * 6364136223846793005L + 1442695040888963407L;
        return (int) Math.floorMod(seed >>> 33, (long) n);
    }

    private static void oneRun(List<Method> face) throws IllegalAccessException {
        PortHouse x = new PortHouse(pick(20) - 3, pick(8) - 2, pick(30) - 3, pick(12) - 2, pick(500) - 20);
        List<Method> often = new ArrayList<>();
        for (int i = 0; i < 12; i++) {
            often.add(face.get(pick(face.size())));
        }
        for (int i = 0; i < CALLS; i++) {
            Method m = pick(2) == 0 ? often.get(pick(often.size())) : face.get(pick(face.size()));
            if (pick(4) == 0) {
                String name = MAKING[pick(MAKING.length)];
                m = face.stream().filter(f -> f.getName().equals(name)).findFirst().get();
            }
            callOnce(x, m);
        }
    }

    private static void callOnce(PortHouse x, Method m) throws IllegalAccessException {
        try {
            m.invoke(x, numbersFor(m));
        } catch (InvocationTargetException e) {
            Throwable thrown = e.getCause();
            boolean named = false;
            for (Class<?> c : m.getExceptionTypes()) {
                named |= c == thrown.getClass();
            }
            StackTraceElement[] trace = thrown.getStackTrace();
            boolean own = trace.length > 0 && trace[0].getClassName().equals("PortHouse");
            if (!named || !own) {
                System.out.println(m.getName() + " threw " + thrown);
            }
            Check.due(true, named && own);
        }
    }

    private static Object[] numbersFor(Method m) {
        Class<?>[] types = m.getParameterTypes();
        Object[] all = new Object[types.length];
        for (int i = 0; i < types.length; i++) {
            long number = m.getName().equals("type") && i == 0 && pick(3) > 0 ? word() : number();
            if (types[i] == int.class) {
                all[i] = (int) number;
            } else {
                all[i] = types[i] == boolean.class ? (Object) (pick(2) == 0) : number;
            }
        }
        return all;
    }

    private static long word() {
        long word = 0;
        for (int i = 0; i < 8; i++) {
            word = word << 8 | SIGNS.charAt(pick(SIGNS.length()));
        }
        return word;
    }

    private static long number() {
        int how = pick(20);
        if (how < 13) {
            return pick(12);
        }
        if (how < 15) {
            return pick(120) - 10;
        }
        if (how < 17) {
            return pick(1200) - 5;
        }
        if (how == 17) {
            return 100000 + pick(900000);
        }
        return how == 18 ? EDGES[pick(EDGES.length)] : seed;
    }
}
