import java.lang.reflect.InvocationTargetException;
import java.lang.reflect.Method;
import java.util.Arrays;
import java.util.Comparator;
import java.util.Random;

/** No call throws, whatever it is given, in whatever state (drawn by fixed seeds); the same calls answer the same. */
public final class WildCalls extends Bench {
    private static final int[] WILD = {Integer.MIN_VALUE, Integer.MIN_VALUE + 1, -1000000000, -31, -2, -1, 0, 1, 2, 3, 4, 5, 6, 7,
        8, 9, 10, 12, 13, 17, 20, 24, 30, 31, 39, 40, 41, 60, 61, 97, 99, 100, 200, 201, 899, 900, 901, 1000, 1001, 999999,
        1000000, 1000001, 2000000, 1000000000, Integer.MAX_VALUE - 1, Integer.MAX_VALUE};
    private static final String[] TEXTS = {"", "top 9;", "button:1/x;at 1/97;stick 9;", "button:x/2;button:(x+1)/3;button:x+1/7;"
            + "button:top-x;button:1/(x+1);button:x*x;floor 1/2 has 9 8 7;floor 3 has 0 99 1;tenant 1;tenant 2/9;tenant 4;at 1/11;",
        "button:((((((x))))));button:", "top 9;button:x+1;" + "tenant 9;tenant 0;", "floor 9 has", "\u00ff"};

    private static Object drawn(Class<?> type, Random r) {
        if (type == boolean.class) {
            return r.nextBoolean();
        }
        int wild = r.nextInt(3) == 0 ? WILD[r.nextInt(WILD.length)] : r.nextInt(12) - 2;
        if (type == long.class) {
            return r.nextInt(8) == 0 ? r.nextLong() : (long) wild;
        }
        return r.nextInt(40) == 0 ? r.nextInt() : wild;
    }

    private static Method[] face() {
        Method[] all = FractionLift.class.getDeclaredMethods();
        Method[] face = Arrays.stream(all).filter(m -> java.lang.reflect.Modifier.isPublic(m.getModifiers()))
                .toArray(Method[]::new);
        Arrays.sort(face, Comparator.comparing(Method::getName));
        return face;
    }

    private static long answer(Method call, FractionLift x, Object[] given) throws IllegalAccessException {
        try {
            return ((Number) call.invoke(x, given)).longValue();
        } catch (InvocationTargetException e) {
            due(call.getName() + Arrays.toString(given) + " threw " + e.getCause(), 1, 0);
            return Long.MIN_VALUE;
        }
    }

    /** All answers of a run, mixed into one number. */
    private static long run(int seed, Method[] face) throws IllegalAccessException {
        Random r = new Random(seed);
        FractionLift x = new FractionLift();
        long mixed = 0;
        for (int i = 0; i < 460; i++) {
            if (i % 60 == 0) {
                x.house(0);
                tell(x, TEXTS[r.nextInt(TEXTS.length)]);
            }
            Method call = face[r.nextInt(face.length)];
            Class<?>[] types = call.getParameterTypes();
            Object[] given = new Object[types.length];
            for (int k = 0; k < given.length; k++) {
                given[k] = drawn(types[k], r);
            }
            mixed = mixed * 31 + answer(call, x, given);
        }
        return mixed;
    }

    public static void main(String[] args) throws IllegalAccessException {
        sentence("Refused calls answer by a code and change nothing:");
        Method[] face = face();
        due("how many calls the face has", face.length, 47);
        for (int seed = 0; seed < 600; seed++) {
            due("run " + seed + " once more", run(seed, face), run(seed, face));
        }
        finish();
    }
}
