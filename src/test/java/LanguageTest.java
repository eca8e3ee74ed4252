import java.io.IOException;
import java.lang.reflect.Field;
import java.lang.reflect.Member;
import java.lang.reflect.Method;
import java.lang.reflect.Modifier;
import java.nio.file.Files;
import java.nio.file.Path;
import java.util.ArrayList;
import java.util.HashSet;
import java.util.List;
import java.util.Set;
import java.util.TreeSet;
import java.util.regex.Pattern;

/** What ../shared/LANGUAGE.md and the document's face ask of the form of PaySteer.java, as far as is easily seen. */
public final class LanguageTest {
    private static final String[] FORBIDDEN = {"\\bthrow\\b", "\\bthrows\\b", "\\btry\\b", "\\bcatch\\b",
        "\\bsynchronized\\b", "\\bassert\\b", "->", "::", "Exact\\b", "\\bimport\\b", "\\bpackage\\b", "\\bvolatile\\b",
        "\\btransient\\b", "\\bnative\\b", "\\bprotected\\b", "\\bstatic\\s*\\{", "\\bSystem\\.(?!arraycopy\\b)",
        "\\b(Integer|Long)\\.(?!(bitCount|compare|max|min|abs|MIN_VALUE)\\b)", "\\bequals\\b", "\\bhashCode\\b",
        "\\btoString\\b", "\\bdouble\\b", "\\bfloat\\b", "\\bString\\b", "\\binstanceof\\b"};
    private static final String FACE = "act(int)int all(int,int)int account(int)long answer(int)int back()int "
            + "best(int)int bestGain(int,int)long breaks(int)int calm(int)int calms()int chances(int,int,int)int "
            + "choose(int)int coarser(int,int,int,int)long contest(int,int,int)int contract()int cost(int,int)int "
            + "count(int)int doesBoth(int,int)int feed(long,int)int first(int,int,int)int gain(int,int)long "
            + "has(int,int)int holds(int,int)int least(int,int,int,int)long likely(int,int,int)long "
            + "look(int,int,int)long lot(int)int may(int,int,int,int,int,int)int menu(int,int,int,int,int)int "
            + "pay(int,int)int promise(int,int)long proof(int,int,int,int)long ratchet(int,int,int,int)int "
            + "rates(int)int reserve(int)int sign(int)int start(int)int steers(int,int)int suspect(int,int)int "
            + "tasks(int,int,int)int team(int,int,int)int terms(int,int,int,int,int)int then(int,int)int "
            + "value(int,int)int work(int,int)int worth(int,int)int year(int)int";
    private static final Set<String> CONSTANTS = Set.of("NONE", "BAD", "STATE", "FULL", "NO");

    private LanguageTest() {
    }

    public static void main(String[] args) throws IOException {
        checkWords();
        checkFace();
        checkClasses();
        checkLengths();
        Due.end("LanguageTest");
    }

    private static String source() throws IOException {
        return Files.readString(Path.of("src/main/java/PaySteer.java"));
    }

    private static void checkWords() throws IOException {
        String code = source().replaceAll("(?s)/\\*.*?\\*/", "").replaceAll("//[^\n]*", "");
        for (String word : FORBIDDEN) {
            Due.that("no " + word, !Pattern.compile(word).matcher(code).find());
        }
        Due.that("signs 1 to 127", source().chars().allMatch(c -> c > 0 && c < 128));
    }

    private static void checkFace() {
        Set<String> has = new TreeSet<>();
        for (Method m : PaySteer.class.getDeclaredMethods()) {
            if (Modifier.isPublic(m.getModifiers())) {
                List<String> types = new ArrayList<>();
                for (Class<?> type : m.getParameterTypes()) {
                    types.add(type.getName());
                }
                has.add(m.getName() + "(" + String.join(",", types) + ")" + m.getReturnType().getName());
            } else {
                Due.that(m + " is private", Modifier.isPrivate(m.getModifiers()));
            }
        }
        Due.that("the face is as told: " + has, has.equals(new TreeSet<>(List.of(FACE.split(" ")))));
        for (Field f : PaySteer.class.getDeclaredFields()) {
            boolean isTold = CONSTANTS.contains(f.getName());
            boolean isConstant = Modifier.isPublic(f.getModifiers()) && isStaticFinal(f);
            Due.that(f + " is as told", isTold ? isConstant : Modifier.isPrivate(f.getModifiers()));
        }
        Due.is("constructors", PaySteer.class.getDeclaredConstructors().length, 1);
        Due.that("final", Modifier.isFinal(PaySteer.class.getModifiers()));
    }

    private static boolean isStaticFinal(Member m) {
        return Modifier.isStatic(m.getModifiers()) && Modifier.isFinal(m.getModifiers());
    }

    private static void checkClasses() {
        Set<String> names = new HashSet<>();
        for (Method m : PaySteer.class.getMethods()) {
            names.add(m.getName());
        }
        Class<?>[] inside = PaySteer.class.getDeclaredClasses();
        Due.that("some twelve classes", inside.length < 13);
        for (Class<?> c : inside) {
            Due.that(c + " is static", Modifier.isStatic(c.getModifiers()));
            Due.is(c + " has none inside", c.getDeclaredClasses().length, 0);
            int fields = 0;
            for (Field f : c.getDeclaredFields()) {
                fields += isStaticFinal(f) ? 0 : 1;
                Due.that(f + " is no static state", !Modifier.isStatic(f.getModifiers()) || isStaticFinal(f));
            }
            Due.that(c + " has some twenty fields", fields <= 20);
            for (Method m : c.getDeclaredMethods()) {
                Due.that(m + " has a name of its own", !names.contains(m.getName()));
                Due.that(m + " takes at most seven", m.getParameterCount() <= 7);
            }
        }
        for (Method m : PaySteer.class.getDeclaredMethods()) {
            boolean hides = Modifier.isPrivate(m.getModifiers()) && names.contains(m.getName());
            Due.that(m + " has a name of its own", !hides);
        }
    }

    /** A method ends with the first line that closes as deep as it opened. */
    private static void checkLengths() throws IOException {
        String[] lines = source().split("\n");
        for (int i = 0; i < lines.length; i++) {
            if (lines[i].matches("( {4}| {8})\\w[^=;]*\\) \\{")) {
                String end = lines[i].replaceAll("\\S.*", "") + "}";
                int last = i;
                while (last < lines.length - 1 && !lines[last].equals(end)) {
                    last++;
                }
                Due.that(lines[i].trim() + " is short", last - i <= 60);
            }
        }
    }
}
