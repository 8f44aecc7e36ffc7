import java.lang.reflect.Array;
import java.lang.reflect.Field;
import java.lang.reflect.Method;
import java.lang.reflect.Modifier;
import java.util.ArrayList;
import java.util.Collections;
import java.util.Comparator;
import java.util.IdentityHashMap;
import java.util.List;
import java.util.Random;
import java.util.Set;

/** Any arguments in any state: no call may throw, and what a run makes must fit into its room. */
public final class WildTest {
    private static final int[] ODD = {Integer.MIN_VALUE, Integer.MIN_VALUE + 1, -100000, -1441, -1440, -2, -1, 0, 1, 2, 3, 5, 9, 10, 11, 31, 32, 33, 99, 100,
        101, 144, 145, 155, 199, 200, 205, 210, 999, 1000, 1001, 1440, 1441, 2000, 100000, Integer.MAX_VALUE - 1, Integer.MAX_VALUE};

    public static void main(String[] args) throws Exception {
        List<Method> methods = new ArrayList<>();
        for (Method m : NightHours.class.getDeclaredMethods()) {
            if (Modifier.isPublic(m.getModifiers()) && !m.getName().equals("read")) {
                methods.add(m);
            }
        }
        methods.sort(Comparator.comparing(Method::getName));
        for (int seed = 1; seed <= 150; seed++) {
            Random random = new Random(seed);
            NightHours n = new NightHours();
            List<String> calls = new ArrayList<>();
            try {
                for (int i = 0; i < 512; i++) {
                    if (i % 100 == 0) {
                        read(n, random, random.nextInt(3) == 0 ? 10 : 4);
                    }
                    Method m = methods.get(random.nextInt(methods.size()));
                    calls.add(m.getName());
                    m.invoke(n, arguments(m, random));
                }
            } catch (java.lang.reflect.InvocationTargetException e) {
                System.out.println("seed " + seed + ": " + e.getCause() + " behind " + calls);
                System.exit(1);
            }
        }
        System.out.println("nothing was thrown");
        room();
    }

    private static Object[] arguments(Method m, Random random) {
        Object[] all = new Object[m.getParameterCount()];
        for (int i = 0; i < all.length; i++) {
            boolean flag = m.getParameterTypes()[i] == boolean.class;
            int wild = random.nextInt(3) == 0 ? ODD[random.nextInt(ODD.length)] : random.nextInt(4) == 0 ? random.nextInt() : random.nextInt(12);
            all[i] = flag ? (Object) random.nextBoolean() : (Object) wild;
        }
        return all;
    }

    private static void read(NightHours n, Random random, int size) {
        n.back(n.count(7));
        String text = random.nextInt(4) > 0 ? TextMaker.makeLive(random, size) : TextMaker.make(random, 0.01, size);
        Tape.put(n, text.substring(0, Math.min(2000, text.length())));
        n.read();
    }

    /** Calls make nothing (LanguageTest sees to that): so what an object has when it is made is all that it needs. */
    private static void room() throws Exception {
        Set<Object> seen = Collections.newSetFromMap(new IdentityHashMap<>());
        long elements = count(new NightHours(), seen);
        System.out.println("an object is " + seen.size() + " objects and arrays with " + elements + " fields and elements");
        if (seen.size() > 150 || elements > 40_000) {
            System.out.println("that is too much room");
            System.exit(1);
        }
    }

    private static long count(Object o, Set<Object> seen) throws Exception {
        if (o == null || !seen.add(o)) {
            return 0;
        }
        if (o.getClass().isArray()) {
            return Array.getLength(o);
        }
        long sum = 0;
        for (Field f : o.getClass().getDeclaredFields()) {
            if (!Modifier.isStatic(f.getModifiers())) {
                f.setAccessible(true);
                sum += 1 + (f.getType().isPrimitive() ? 0 : count(f.get(o), seen));
            }
        }
        return sum;
    }
}
