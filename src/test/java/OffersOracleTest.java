import java.util.Random;

/** Promises 17 to 22 against another way to work them out: all menus, all plans are looked at. */
public final class OffersOracleTest {
    private static final long NO = Long.MIN_VALUE;

    private OffersOracleTest() {
    }

    public static void main(String[] args) {
        for (long seed = 0; seed < 25; seed++) {
            checkMenu(seed);
        }
        for (long seed = 0; seed < 300; seed++) {
            checkMay(seed);
        }
        for (long seed = 0; seed < 120; seed++) {
            checkPromises(seed);
        }
        Due.end("OffersOracleTest");
    }

    private static boolean mayBe(int rate0, int rate1, int q0, int pay0, int q1, int pay1) {
        boolean kind0 = pay0 - rate0 * q0 * q0 >= 0 && pay0 - rate0 * q0 * q0 >= pay1 - rate0 * q1 * q1;
        boolean kind1 = pay1 - rate1 * q1 * q1 >= 0 && pay1 - rate1 * q1 * q1 >= pay0 - rate1 * q0 * q0;
        return kind0 && kind1;
    }

    private static void checkMenu(long seed) {
        Random random = new Random(seed);
        PaySteer x = new PaySteer(0);
        int[] v = new int[10];
        int most = 20 + random.nextInt(300);
        for (int q = 1; q <= 9; q++) {
            v[q] = random.nextInt(3) == 0 ? 0 : random.nextInt(most);
            x.work(q, v[q]);
        }
        int rate0 = 1 + random.nextInt(2);
        int rate1 = rate0 + 1 + random.nextInt(2);
        int n = 2 + random.nextInt(19);
        int m = 1 + random.nextInt(n - 1);
        int limit = rate1 * 81 + 20;
        int[] best = null;
        // In the order of q 0, q 1, pay 0, pay 1, so that the first one of several stays.
        for (int q0 = 0; q0 <= 9; q0++) {
            for (int q1 = 0; q1 <= 9; q1++) {
                for (int pay0 = 0; pay0 <= limit; pay0++) {
                    for (int pay1 = 0; pay1 <= limit; pay1++) {
                        int sum = (n - m) * (v[q0] - pay0) + m * (v[q1] - pay1);
                        if ((best == null || sum > best[5]) && mayBe(rate0, rate1, q0, pay0, q1, pay1)) {
                            best = new int[] {q0, pay0, q1, pay1, q0 == q1 ? 1 : 0, sum};
                        }
                    }
                }
            }
        }
        for (int what = 0; what <= 5; what++) {
            Due.is("seed " + seed + ": menu what " + what, x.menu(rate0, rate1, m, n, what), best[what]);
        }
    }

    private static void checkMay(long seed) {
        Random random = new Random(seed);
        PaySteer x = new PaySteer(0);
        int rate0 = 1 + random.nextInt(19);
        int rate1 = rate0 + 1 + random.nextInt(20 - rate0);
        int q0 = random.nextInt(10);
        int q1 = random.nextInt(q0 + 1);
        int pay1 = rate1 * q1 * q1 + random.nextInt(3) - 1;
        int pay0 = rate0 * q0 * q0 + (rate1 - rate0) * q1 * q1 + random.nextInt(3) - 1;
        if (pay0 >= 0 && pay1 >= 0) {
            Due.is("seed " + seed + ": may", x.may(rate0, rate1, q0, pay0, q1, pay1),
                    mayBe(rate0, rate1, q0, pay0, q1, pay1) ? 1 : 0);
        }
    }

    private static void checkPromises(long seed) {
        Random random = new Random(seed);
        PaySteer x = new PaySteer(0);
        int[] c = {random.nextInt(13), random.nextInt(13)};
        int[] p = {random.nextInt(13), random.nextInt(13)};
        if (seed % 3 == 0) {
            c[0] = 0;
            c[1] = random.nextInt(4);
        }
        int v = random.nextInt(100);
        if (seed == 0) {
            c = new int[] {0, 3};
            p = new int[] {3, 9};
            v = 10;
        } else {
            x.terms(c[0], c[1], p[0], p[1], v);
        }
        long[][] sum = new long[7][13];
        java.util.Arrays.fill(sum[0], NO);
        sum[0][0] = 0;
        for (int t = 1; t <= 6; t++) {
            int start = -1;
            for (int w = 0; w <= 12; w++) {
                int[] plan = bestPlan(c, p, v, sum, t, w);
                Due.is("seed " + seed + ": promise(" + t + ", " + w + ")", x.promise(t, w), sum[t][w]);
                for (int what = 0; what < 4; what++) {
                    Due.is("seed " + seed + ": first(" + t + ", " + w + ", " + what + ")", x.first(t, w, what),
                            plan == null ? -1 : plan[what]);
                }
                if (plan != null && (start < 0 || sum[t][w] > sum[t][start])) {
                    start = w;
                }
            }
            Due.is("seed " + seed + ": start(" + t + ")", x.start(t), start);
        }
    }

    /** Puts the sum for t, w into sum, and answers the plan, or null. */
    private static int[] bestPlan(int[] c, int[] p, int v, long[][] sum, int t, int w) {
        int[] plan = null;
        sum[t][w] = NO;
        long whole = 1;
        for (int i = 1; i < t; i++) {
            whole *= 12;
        }
        for (int act = 0; act < 2; act++) {
            for (int a = 0; a <= 6; a++) {
                for (int u = 0; u <= 12; u++) {
                    for (int d = 0; d <= 12; d++) {
                        int own = 12 * (a - c[act]) + p[act] * u + (12 - p[act]) * d;
                        int other = 12 * (a - c[1 - act]) + p[1 - act] * u + (12 - p[1 - act]) * d;
                        if (own != 12 * w || own < other || sum[t - 1][u] == NO || sum[t - 1][d] == NO) {
                            continue;
                        }
                        long got = whole * p[act] * v - 12 * whole * a + p[act] * sum[t - 1][u]
                                + (12 - p[act]) * sum[t - 1][d];
                        if (plan == null || got > sum[t][w]) {
                            plan = new int[] {act, a, u, d};
                            sum[t][w] = got;
                        }
                    }
                }
            }
        }
        return plan;
    }
}
