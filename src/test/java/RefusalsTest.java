import java.lang.reflect.InvocationTargetException;
import java.lang.reflect.Method;
import java.lang.reflect.Modifier;
import java.util.ArrayList;
import java.util.Arrays;
import java.util.Comparator;
import java.util.List;
import java.util.Random;

/**
 * Runs of 512 calls with numbers of all kinds: nothing throws, what is refused changes nothing, what only asks changes
 * nothing, and the same calls have the same answers.
 */
public final class RefusalsTest {
    private static final List<String> CHANGING = List.of("act", "cost", "chances", "value", "reserve", "pay", "work",
            "terms", "team", "all", "contest", "feed", "contract", "sign", "lot", "year", "back", "tasks");
    private static final int[] WILD = {Integer.MIN_VALUE, Integer.MAX_VALUE, -1, -2, 1 << 28, 1 << 16, 65537, 1000};

    private RefusalsTest() {
    }

    public static void main(String[] args) throws ReflectiveOperationException {
        List<Method> face = new ArrayList<>();
        for (Method m : PaySteer.class.getDeclaredMethods()) {
            if (Modifier.isPublic(m.getModifiers())) {
                face.add(m);
            }
        }
        face.sort(Comparator.comparing(Method::getName));
        for (long seed = 0; seed < 400; seed++) {
            run(face, seed);
        }
        Due.end("RefusalsTest");
    }

    private static Object[] draw(Method m, Random random) {
        Class<?>[] types = m.getParameterTypes();
        Object[] all = new Object[types.length];
        for (int i = 0; i < types.length; i++) {
            int x = drawOne(m.getName(), i, random);
            if (types[i] == long.class) {
                all[i] = drawText(random);
            } else {
                all[i] = x;
            }
        }
        return all;
    }

    private static int drawOne(String name, int i, Random random) {
        if (random.nextInt(25) == 0) {
            return random.nextBoolean() ? WILD[random.nextInt(WILD.length)] : random.nextInt();
        }
        if (name.equals("chances") && i == 2) {
            int x = random.nextInt(13);
            return x + (12 - x << 4);
        }
        if (name.equals("team") && i > 0) {
            return random.nextInt(12) + (random.nextInt(12) << 7);
        }
        if (name.equals("contest") && i == 1) {
            return 11 + random.nextInt(89);
        }
        if (name.equals("coarser") && i == 2) {
            return random.nextInt(2) + (random.nextInt(2) << 4);
        }
        if (name.equals("feed")) {
            return 1;
        }
        return random.nextInt(random.nextInt(4) == 0 ? 100 : 5);
    }

    private static long drawText(Random random) {
        String signs = "123sv+-*()s1v2";
        return signs.charAt(random.nextInt(signs.length())) | random.nextLong() << 8;
    }

    private static long call(Method m, PaySteer x, Object[] with) throws ReflectiveOperationException {
        try {
            return ((Number) m.invoke(x, with)).longValue();
        } catch (InvocationTargetException e) {
            Due.is(m.getName() + Arrays.toString(with) + " threw " + e.getCause(), 1, 0);
            return 0;
        }
    }

    private static boolean isRefused(String name, Object[] with, long answer) {
        if (name.equals("value")) {
            return answer == -1000;
        }
        boolean hasPlace = name.equals("contract") && answer > -10 || name.equals("act") || name.equals("feed");
        return answer == PaySteer.NONE || answer == PaySteer.BAD
                || answer == PaySteer.FULL && (hasPlace || name.equals("year"));
    }

    private static void run(List<Method> face, long seed) throws ReflectiveOperationException {
        Random random = new Random(seed);
        int sights = random.nextInt();
        PaySteer every = new PaySteer(sights);
        PaySteer again = new PaySteer(sights);
        PaySteer taken = new PaySteer(sights);
        for (int turn = 0; turn < 512; turn++) {
            Method m = face.get(random.nextInt(face.size()));
            if (turn < 10) {
                m = method(face, turn % 2 == 0 ? "act" : "chances");
            }
            Object[] with = draw(m, random);
            long answer = call(m, every, with);
            String told = "seed " + seed + ", turn " + turn + ": " + m.getName() + Arrays.toString(with);
            Due.is(told + " again", call(m, again, with), answer);
            if (CHANGING.contains(m.getName()) && !isRefused(m.getName(), with, answer)) {
                Due.is(told + " without what was refused or asked", call(m, taken, with), answer);
            } else if (random.nextInt(20) == 0) {
                Due.is(told + " asked of the other", call(m, taken, with), answer);
            }
        }
    }

    private static Method method(List<Method> face, String name) {
        for (Method m : face) {
            if (m.getName().equals(name)) {
                return m;
            }
        }
        throw new IllegalStateException(name);
    }
}
