import java.io.IOException;
import java.lang.reflect.InvocationTargetException;
import java.lang.reflect.Method;
import java.nio.file.Files;
import java.nio.file.Path;
import java.util.HashSet;
import java.util.Map;
import java.util.Set;
import java.util.regex.Matcher;
import java.util.regex.Pattern;

/** Each call of README.md's examples answers what stands behind it, and each heading of the face has an example. */
public final class ReadmeTest {
    private static final Pattern EXAMPLE = Pattern.compile("(?s)```java\n(.*?)```");
    private static final Pattern MADE = Pattern.compile("PaySteer x = new PaySteer\\((\\d+)\\); +//.+");
    private static final Pattern CALL = Pattern.compile("x\\.(\\w+)\\((.*)\\); +// (-?\\w+): .+");
    private static final Pattern DIGIT = Pattern.compile("(\\w+) << (\\d+)|(\\w+)");
    private static final Map<String, Long> WORDS = Map.of("NONE", (long) PaySteer.NONE, "BAD", (long) PaySteer.BAD,
            "STATE", (long) PaySteer.STATE, "FULL", (long) PaySteer.FULL, "NO", PaySteer.NO);
    private static final Set<String> USED = new HashSet<>();

    private ReadmeTest() {
    }

    public static void main(String[] args) throws IOException {
        Matcher examples = EXAMPLE.matcher(Files.readString(Path.of("README.md")));
        while (examples.find()) {
            run(examples.group(1).split("\n"));
        }
        for (String name : "answer least proof menu promise breaks look calm contract year rates ratchet".split(" ")) {
            Due.that(name + " has an example", USED.contains(name));
        }
        Due.end("ReadmeTest");
    }

    private static void run(String[] lines) {
        Matcher made = MADE.matcher(lines[0]);
        Due.that("an object is made: " + lines[0], made.matches());
        PaySteer x = new PaySteer(Integer.parseInt(made.group(1)));
        for (int i = 1; i < lines.length; i++) {
            Matcher call = CALL.matcher(lines[i]);
            boolean isCall = call.matches();
            Due.that("a call with its answer: " + lines[i], isCall);
            if (isCall) {
                Due.is(lines[i], answer(x, call.group(1), call.group(2)), number(call.group(3)));
            }
        }
    }

    private static long answer(PaySteer x, String name, String told) {
        USED.add(name);
        String[] parts = told.isEmpty() ? new String[0] : told.split(", ");
        for (Method method : PaySteer.class.getMethods()) {
            if (method.getName().equals(name) && method.getParameterCount() == parts.length) {
                return ((Number) invoke(x, method, parts)).longValue();
            }
        }
        throw new IllegalArgumentException("no such call: " + name + "(" + told + ")");
    }

    private static Object invoke(PaySteer x, Method method, String[] parts) {
        Object[] numbers = new Object[parts.length];
        for (int i = 0; i < parts.length; i++) {
            long number = sum(parts[i]);
            boolean isLong = method.getParameterTypes()[i] == long.class;
            if (isLong) {
                numbers[i] = number;
            } else {
                numbers[i] = (int) number;
            }
        }
        try {
            return method.invoke(x, numbers);
        } catch (IllegalAccessException | InvocationTargetException e) {
            throw new IllegalStateException(method + " could not be called", e);
        }
    }

    /** A number, or digits that are put together: 5 | 6 << 7. */
    private static long sum(String told) {
        long sum = 0;
        for (String digit : told.split(" \\| ")) {
            Matcher parts = DIGIT.matcher(digit);
            if (parts.matches() && parts.group(1) != null) {
                sum |= number(parts.group(1)) << number(parts.group(2));
            } else {
                sum |= number(digit);
            }
        }
        return sum;
    }

    private static long number(String told) {
        return WORDS.containsKey(told) ? WORDS.get(told) : Long.decode(told.replaceAll("L$", ""));
    }
}
