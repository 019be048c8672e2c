import java.lang.reflect.InvocationTargetException;
import java.lang.reflect.Method;
import java.util.Random;

/** Every call with numbers from all over, on an empty object, a full one, and on those that come of it. */
public final class NeverThrowsTest {
    private static final Check CHECK = new Check("NeverThrowsTest");
    private static final long[] NUMBERS = {
        Integer.MIN_VALUE, -1, 0, 1, 2, 3, 4, 5, 6, 9, 10, 12, 13, 23, 24, 30, 31, 50, 100, 299, 300, 1000, 1023, 3000,
        5000, Integer.MAX_VALUE};

    public static void main(String[] args) throws IllegalAccessException {
        Random random = new Random(7);
        for (int round = 0; round < 60; round++) {
            HeaveSongs x = new HeaveSongs();
            if (round % 2 == 1) {
                fill(x, random);
            }
            for (int i = 0; i < 20; i++) {
                for (Method m : HeaveSongs.class.getDeclaredMethods()) {
                    if (java.lang.reflect.Modifier.isPublic(m.getModifiers())) {
                        call(x, m, random);
                    }
                }
            }
        }
        CHECK.end();
    }

    private static void fill(HeaveSongs x, Random random) {
        for (int s = 0; s < 6; s++) {
            for (int i = 0; i < 24; i++) {
                x.beat(random.nextInt(4));
            }
            x.song();
            for (int i = 0; i < 12; i++) {
                x.beat(random.nextInt(4));
            }
            x.refrain(s);
        }
        for (int i = 0; i < 12; i++) {
            x.hand(1 + random.nextInt(100), random.nextInt(31), random.nextInt(31), random.nextInt(31));
            x.late(i, random.nextInt(4));
            x.task(1 + random.nextInt(60), random.nextInt(300), random.nextInt(4));
            x.word(1 + i % 5, random.nextInt(2));
        }
        for (int m = 0; m < 60; m++) {
            x.mark(random.nextInt(300), random.nextInt(5001));
        }
        for (int i = 0; i < 24; i++) {
            x.beat(random.nextInt(4));
        }
    }

    private static void call(HeaveSongs x, Method m, Random random) throws IllegalAccessException {
        Class<?>[] types = m.getParameterTypes();
        Object[] given = new Object[types.length];
        StringBuilder told = new StringBuilder(m.getName());
        for (int i = 0; i < types.length; i++) {
            long v = NUMBERS[random.nextInt(random.nextInt(3) == 0 ? NUMBERS.length : 7)];
            if (types[i] == long.class) {
                given[i] = random.nextInt(4) == 0 ? random.nextLong() : v;
            } else {
                given[i] = (int) v;
            }
            told.append(' ').append(given[i]);
        }
        try {
            m.invoke(x, given);
            CHECK.holds(told.toString(), true);
        } catch (InvocationTargetException thrown) {
            CHECK.holds(told + " threw " + thrown.getCause(), false);
        }
    }
}
