import java.util.ArrayList;
import java.util.List;
import java.util.Random;

/**
 * Promises 9 to 15 against another way to work them out: all corners of what steers are looked at, in fractions of
 * any size.
 */
public final class LeastPayOracleTest {
    private static final long NO = Long.MIN_VALUE;

    private final Random random;
    private final boolean hasTies;
    private final PaySteer x;
    private final int sights;
    private final int acts;
    private final int[] costs;
    private final int[][][] chances;
    private final int[] values;
    private final int reserve;

    private LeastPayOracleTest(long seed) {
        random = new Random(seed);
        // Small costs, and a sight that does not matter for act 0: many pays have the same mean.
        hasTies = seed % 3 == 0;
        sights = 2 + random.nextInt(3);
        acts = 1 + random.nextInt(4);
        x = new PaySteer(sights - 2);
        costs = new int[acts];
        chances = new int[acts][2][];
        values = new int[sights];
        int grain = new int[] {1, 2, 3, 6}[random.nextInt(4)];
        int mostCost = hasTies ? 6 : random.nextInt(3) == 0 ? 99 : 1 + random.nextInt(12);
        for (int a = 0; a < acts; a++) {
            costs[a] = random.nextInt(mostCost + 1);
            x.act(costs[a]);
            for (int world = 0; world < 2; world++) {
                chances[a][world] = drawChances(grain, a, world);
                x.chances(a, world, digits(chances[a][world]));
            }
        }
        for (int k = 0; k < sights; k++) {
            values[k] = random.nextInt(199) - 99;
            x.value(k, values[k]);
        }
        reserve = random.nextBoolean() ? 0 : random.nextInt(hasTies ? 6 : 100);
        x.reserve(reserve);
    }

    /** As many seeds are drawn as are told, or some that suffice. */
    public static void main(String[] args) {
        long seeds = args.length > 0 ? Long.parseLong(args[0]) : 1500;
        for (long seed = 0; seed < seeds; seed++) {
            LeastPayOracleTest run = new LeastPayOracleTest(seed);
            run.checkLeast(seed);
            run.checkProofs(seed);
            run.checkBest(seed);
            run.checkAnswers(seed);
        }
        Due.end("LeastPayOracleTest");
    }

    private int[] drawChances(int grain, int a, int world) {
        if (a > 0 && random.nextInt(5) == 0) {
            return chances[random.nextInt(a)][world].clone();
        }
        int[] row = new int[sights];
        int seen = hasTies && a == 0 && world == 0 ? sights - 1 : sights;
        for (int i = 0; i < 12 / grain; i++) {
            row[random.nextInt(seen)] += grain;
        }
        return row;
    }

    private static int digits(int[] row) {
        int sum = 0;
        for (int k = 0; k < row.length; k++) {
            sum += row[k] << 4 * k;
        }
        return sum;
    }

    /** Rows of coefficients with their need behind them: the sum must not be below the need. */
    private static Fraction[] row(int[] coefficients, int need) {
        Fraction[] row = new Fraction[coefficients.length + 1];
        for (int i = 0; i < coefficients.length; i++) {
            row[i] = Fraction.of(coefficients[i]);
        }
        row[coefficients.length] = Fraction.of(need);
        return row;
    }

    private static List<Fraction[]> signs(int unknowns) {
        List<Fraction[]> rows = new ArrayList<>();
        for (int i = 0; i < unknowns; i++) {
            int[] one = new int[unknowns];
            one[i] = 1;
            rows.add(row(one, 0));
        }
        return rows;
    }

    private int[] joined(int[] row, int[] to) {
        int[] sum = new int[sights];
        for (int k = 0; k < sights; k++) {
            sum[to[k]] += row[k];
        }
        return sum;
    }

    /** The mean (times 12) and then pay at each sight, or null. */
    private Fraction[] leastPay(int a, int worlds, int[] to) {
        List<Fraction[]> rows = signs(sights);
        int[] goal = null;
        for (int world = 0; world < 2; world++) {
            if ((worlds >> world & 1) == 0) {
                continue;
            }
            int[] mine = joined(chances[a][world], to);
            goal = goal == null ? mine : goal;
            rows.add(row(mine, 12 * (costs[a] + reserve)));
            for (int b = 0; b < acts; b++) {
                int[] more = mine.clone();
                int[] others = joined(chances[b][world], to);
                for (int k = 0; k < sights; k++) {
                    more[k] -= others[k];
                }
                rows.add(row(more, 12 * (costs[a] - costs[b])));
            }
        }
        return leastCorner(rows, goal);
    }

    /** The shares' sum of costs, and then each other act's share, or null. */
    private Fraction[] shares(int a, int world) {
        int others = acts - 1;
        List<Fraction[]> rows = signs(others);
        int[] goal = new int[others];
        int[] sums = new int[others];
        for (int i = 0; i < others; i++) {
            goal[i] = costs[i < a ? i : i + 1];
            sums[i] = 1;
        }
        rows.add(row(sums, 1));
        rows.add(negative(row(sums, 1)));
        for (int k = 0; k < sights; k++) {
            int[] at = new int[others];
            for (int i = 0; i < others; i++) {
                at[i] = chances[i < a ? i : i + 1][world][k];
            }
            rows.add(row(at, chances[a][world][k]));
            rows.add(negative(row(at, chances[a][world][k])));
        }
        return leastCorner(rows, goal);
    }

    private static Fraction[] negative(Fraction[] row) {
        Fraction[] other = new Fraction[row.length];
        for (int i = 0; i < row.length; i++) {
            other[i] = row[i].times(Fraction.of(-1));
        }
        return other;
    }

    /** Goal and unknowns of the corner with the least goal, then the least unknowns; null if there is none. */
    private static Fraction[] leastCorner(List<Fraction[]> rows, int[] goal) {
        int n = goal.length;
        Fraction[] least = null;
        for (int set = 0; set < 1 << rows.size(); set++) {
            if (Integer.bitCount(set) != n) {
                continue;
            }
            Fraction[] corner = corner(rows, set, n);
            if (corner == null || !isAllowed(rows, corner)) {
                continue;
            }
            Fraction[] found = new Fraction[n + 1];
            found[0] = Fraction.ZERO;
            for (int i = 0; i < n; i++) {
                found[0] = found[0].plus(corner[i].times(Fraction.of(goal[i])));
                found[i + 1] = corner[i];
            }
            if (least == null || compare(found, least) < 0) {
                least = found;
            }
        }
        return least;
    }

    private static int compare(Fraction[] one, Fraction[] other) {
        for (int i = 0; i < one.length; i++) {
            int by = one[i].compareTo(other[i]);
            if (by != 0) {
                return by;
            }
        }
        return 0;
    }

    private static boolean isAllowed(List<Fraction[]> rows, Fraction[] corner) {
        for (Fraction[] row : rows) {
            Fraction sum = Fraction.ZERO;
            for (int i = 0; i < corner.length; i++) {
                sum = sum.plus(row[i].times(corner[i]));
            }
            if (sum.compareTo(row[corner.length]) < 0) {
                return false;
            }
        }
        return true;
    }

    /** Where the rows of a set are just met, or null. */
    private static Fraction[] corner(List<Fraction[]> rows, int set, int n) {
        Fraction[][] m = new Fraction[n][];
        int many = 0;
        for (int i = 0; i < rows.size(); i++) {
            if ((set >> i & 1) != 0) {
                m[many++] = rows.get(i).clone();
            }
        }
        for (int c = 0; c < n; c++) {
            int p = c;
            while (p < n && m[p][c].sign() == 0) {
                p++;
            }
            if (p == n) {
                return null;
            }
            Fraction[] swap = m[p];
            m[p] = m[c];
            m[c] = swap;
            for (int r = 0; r < n; r++) {
                if (r != c && m[r][c].sign() != 0) {
                    Fraction by = m[r][c].by(m[c][c]);
                    for (int j = c; j <= n; j++) {
                        m[r][j] = m[r][j].minus(by.times(m[c][j]));
                    }
                }
            }
        }
        Fraction[] corner = new Fraction[n];
        for (int i = 0; i < n; i++) {
            corner[i] = m[i][n].by(m[i][i]);
        }
        return corner;
    }

    private static long part(Fraction f, int what) {
        return f == null ? NO : f.part(what);
    }

    private static Fraction mean(Fraction[] least) {
        return least == null ? null : least[0].by(Fraction.of(12));
    }

    private int[] plain() {
        int[] to = new int[sights];
        for (int k = 0; k < sights; k++) {
            to[k] = k;
        }
        return to;
    }

    private void checkLeast(long seed) {
        for (int a = 0; a < acts; a++) {
            for (int worlds = 1; worlds <= 3; worlds++) {
                if (worlds == 3 && sights == 4 && acts == 4 && seed % 8 != 0) {
                    continue;
                }
                Fraction[] least = leastPay(a, worlds, plain());
                String call = "seed " + seed + ": (" + a + ", " + worlds + ") ";
                Due.is(call + "steers", x.steers(a, worlds), least == null ? 0 : 1);
                for (int what = 0; what < 2; what++) {
                    Due.is(call + "mean", x.least(a, worlds, -1, what), part(mean(least), what));
                    for (int k = 0; k < sights; k++) {
                        Due.is(call + "least at " + k, x.least(a, worlds, k, what),
                                least == null ? NO : part(least[k + 1], what));
                    }
                }
            }
            for (int world = 0; world < 2; world++) {
                checkCoarser(seed, a, world);
            }
        }
    }

    private void checkCoarser(long seed, int a, int world) {
        int[] to = new int[sights];
        for (int k = 0; k < sights; k++) {
            to[k] = random.nextInt(sights);
        }
        Fraction[] least = leastPay(a, 1 << world, to);
        for (int what = 0; what < 2; what++) {
            Due.is("seed " + seed + ": coarser(" + a + ", " + world + ", " + digits(to) + ")",
                    x.coarser(a, world, digits(to), what), part(mean(least), what));
        }
    }

    private void checkProofs(long seed) {
        for (int a = 0; a < acts; a++) {
            for (int world = 0; world < 2; world++) {
                boolean due = leastPay(a, 1 << world, plain()) == null;
                Fraction[] shares = due ? shares(a, world) : null;
                String call = "seed " + seed + ": proof(" + a + ", " + world + ", ";
                if (due) {
                    Due.that(call + ") there is one", shares != null && shares[0].compareTo(Fraction.of(costs[a])) < 0);
                }
                for (int what = 0; what < 2 && due == (shares != null); what++) {
                    Due.is(call + "-1)", x.proof(a, world, -1, what), due ? part(shares[0], what) : NO);
                    for (int b = 0; b < acts; b++) {
                        long share = due && b != a ? part(shares[b < a ? b + 1 : b], what) : NO;
                        Due.is(call + b + ")", x.proof(a, world, b, what), share);
                    }
                }
            }
        }
    }

    private void checkBest(long seed) {
        for (int world = 0; world < 2; world++) {
            int best = -1;
            Fraction most = null;
            for (int a = 0; a < acts; a++) {
                Fraction[] least = leastPay(a, 1 << world, plain());
                if (least == null) {
                    continue;
                }
                Fraction sum = Fraction.ZERO;
                for (int k = 0; k < sights; k++) {
                    sum = sum.plus(Fraction.of((long) values[k] * chances[a][world][k]));
                }
                Fraction kept = sum.minus(least[0]).by(Fraction.of(12));
                if (most == null || kept.compareTo(most) > 0) {
                    best = a;
                    most = kept;
                }
            }
            Due.is("seed " + seed + ": best(" + world + ")", x.best(world), best);
            Due.is("seed " + seed + ": bestGain(" + world + ", 0)", x.bestGain(world, 0), part(most, 0));
            Due.is("seed " + seed + ": bestGain(" + world + ", 1)", x.bestGain(world, 1), part(most, 1));
        }
    }

    private void checkAnswers(long seed) {
        for (int turn = 0; turn < 5; turn++) {
            int[] pays = new int[sights];
            for (int k = 0; k < sights; k++) {
                pays[k] = turn == 0 ? 0 : random.nextInt(turn * turn * 10);
                x.pay(k, pays[k]);
            }
            for (int world = 0; world < 2; world++) {
                int best = -1;
                long bestLeft = 0;
                long bestKept = 0;
                for (int a = 0; a < acts; a++) {
                    long left = -12L * costs[a];
                    long kept = 0;
                    for (int k = 0; k < sights; k++) {
                        left += pays[k] * chances[a][world][k];
                        kept += (values[k] - pays[k]) * chances[a][world][k];
                    }
                    Due.is("seed " + seed + ": gain(" + a + ", " + world + ")", x.gain(a, world), left);
                    if (best < 0 || left > bestLeft || left == bestLeft && kept > bestKept) {
                        best = a;
                        bestLeft = left;
                        bestKept = kept;
                    }
                }
                Due.is("seed " + seed + ": answer(" + world + ")", x.answer(world), best);
            }
        }
    }
}
