import java.util.ArrayList;
import java.util.List;
import java.util.Random;

/** Promises 23 to 31 against another way to work them out. */
public final class TeamsOracleTest {
    private TeamsOracleTest() {
    }

    public static void main(String[] args) {
        for (long seed = 0; seed < 400; seed++) {
            checkTeam(seed);
        }
        for (long seed = 0; seed < 600; seed++) {
            checkContest(seed);
        }
        checkLooks();
        Due.end("TeamsOracleTest");
    }

    private static void checkTeam(long seed) {
        Random random = new Random(seed);
        PaySteer x = new PaySteer(0);
        int n = 2 + random.nextInt(3);
        int[] c = new int[n];
        int[] s = new int[n];
        int costs = 0;
        int shares = 0;
        int left = 24;
        for (int i = 0; i < n; i++) {
            c[i] = random.nextInt(seed % 2 == 0 ? 12 : 100);
            s[i] = random.nextInt(left / 2 + 1);
            left -= s[i];
            costs |= c[i] << 7 * i;
            shares |= s[i] << 7 * i;
        }
        x.team(n, costs, shares);
        int[] g = new int[5];
        for (int k = 0; k <= 4; k++) {
            g[k] = random.nextInt(3) == 0 ? random.nextInt(1000) : Math.min(999, 40 * k + random.nextInt(60));
            x.all(k, g[k]);
        }
        for (int set = 0; set < 1 << n; set++) {
            int first = -1;
            boolean alone = true;
            for (int i = 0; i < n; i++) {
                Due.is("seed " + seed + ": has(" + set + ", " + i + ")", x.has(set, i), has(c, s, g, set, i));
            }
            for (int by = (1 << n) - 1; by > 0; by--) {
                boolean gains = true;
                int many = 0;
                for (int i = 0; i < n; i++) {
                    if ((by >> i) % 2 == 1) {
                        many++;
                        gains &= has(c, s, g, set ^ by, i) > has(c, s, g, set, i);
                    }
                }
                first = gains ? by : first;
                alone &= !gains || many > 1;
            }
            Due.is("seed " + seed + ": breaks(" + set + ")", x.breaks(set), first);
            Due.is("seed " + seed + ": holds(" + set + ", 0)", x.holds(set, 0), first < 0 ? 1 : 0);
            Due.is("seed " + seed + ": holds(" + set + ", 1)", x.holds(set, 1), alone ? 1 : 0);
        }
    }

    private static int has(int[] c, int[] s, int[] g, int set, int i) {
        int many = 0;
        for (int j = 0; j < c.length; j++) {
            many += (set >> j) % 2;
        }
        return (int) Math.floor(s[i] * g[many] / 24.0) - (set >> i) % 2 * c[i];
    }

    private static void checkContest(long seed) {
        Random random = new Random(seed);
        PaySteer x = new PaySteer(0);
        int z = seed % 2 == 0 ? random.nextInt(1000) : random.nextInt(20);
        int[] k = {1 + random.nextInt(9), 1 + random.nextInt(9)};
        int[] h = {random.nextInt(10), seed % 3 == 0 ? 0 : random.nextInt(10)};
        x.contest(z, 10 * k[0] + k[1], 10 * h[0] + h[1]);
        List<Integer> calm = new ArrayList<>();
        for (int both = 0; both < 81; both++) {
            int e = both / 9;
            int f = both % 9;
            boolean stays = true;
            for (int other = 0; other < 9; other++) {
                stays &= twice(z, other + h[0], f + h[1]) - 2 * other * other * k[0]
                        <= twice(z, e + h[0], f + h[1]) - 2 * e * e * k[0];
                stays &= twice(z, other + h[1], e + h[0]) - 2 * other * other * k[1]
                        <= twice(z, f + h[1], e + h[0]) - 2 * f * f * k[1];
            }
            if (stays) {
                calm.add(10 * e + f);
            }
        }
        Due.is("seed " + seed + ": calms()", x.calms(), calm.size());
        for (int i = 0; i <= calm.size(); i++) {
            Due.is("seed " + seed + ": calm(" + i + ")", x.calm(i), i < calm.size() ? calm.get(i) : -1);
        }
    }

    private static int twice(int z, int own, int other) {
        return own > other ? 2 * z : own == other ? z : 0;
    }

    private static void checkLooks() {
        Random random = new Random(1);
        for (int turn = 0; turn < 2000; turn++) {
            PaySteer x = new PaySteer(0);
            int hidden = 1 + random.nextInt(turn % 2 == 0 ? 999 : 12);
            int fine = random.nextInt(turn % 3 == 0 ? 1000 : 12);
            Fraction due = Fraction.of(hidden).by(Fraction.of(hidden + fine));
            Due.is("look(" + hidden + ", " + fine + ", 0)", x.look(hidden, fine, 0), due.part(0));
            Due.is("look(" + hidden + ", " + fine + ", 1)", x.look(hidden, fine, 1), due.part(1));
        }
    }
}
