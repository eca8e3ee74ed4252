import java.math.BigInteger;
import java.util.ArrayList;
import java.util.List;
import java.util.Random;

/** Promises 37 to 47 against another way to work them out; no object is used for more than 512 calls. */
public final class YearsOracleTest {
    /** What is known of a year that went by. */
    private record Year(int act, int sight, int paid, int value, int lotAhead, int lot) {
    }

    private YearsOracleTest() {
    }

    public static void main(String[] args) {
        for (long seed = 0; seed < 1200; seed++) {
            checkYears(seed);
        }
        for (long seed = 0; seed < 60; seed++) {
            checkTasks(seed);
        }
        checkRatchets();
        Due.end("YearsOracleTest");
    }

    private static void checkYears(long seed) {
        Random random = new Random(seed);
        PaySteer x = new PaySteer(2);
        int[] values = new int[4];
        int[] pays = new int[4];
        int[][][] chances = new int[3][2][4];
        int lot = random.nextInt(65537);
        x.lot(lot);
        for (int a = 0; a < 3; a++) {
            x.act(random.nextInt(8));
            for (int world = 0; world < 2; world++) {
                int row = 0;
                for (int i = 0; i < 12; i++) {
                    int k = random.nextInt(a == 0 ? 4 : 2) + (a == 2 ? 2 : 0);
                    chances[a][world][k]++;
                    row += 1 << 4 * k;
                }
                x.chances(a, world, row);
            }
        }
        List<Year> years = new ArrayList<>();
        // Either few years, each of them looked at, or so many that there is no room for more.
        boolean isLong = seed % 2 == 0;
        for (int turn = 0; turn < (isLong ? 68 : 27); turn++) {
            int k = random.nextInt(4);
            values[k] = random.nextInt(199) - 99;
            x.value(k, values[k]);
            pays[k] = random.nextInt(12);
            x.pay(k, pays[k]);
            int reserve = random.nextInt(6);
            x.reserve(reserve);
            if (random.nextInt(isLong ? 30 : 4) == 0) {
                int due = years.isEmpty() ? -1 : years.size() - 1;
                Due.is("seed " + seed + ": back()", x.back(), due);
                lot = years.isEmpty() ? lot : years.remove(years.size() - 1).lotAhead();
            } else {
                lot = passes(x, seed, random.nextInt(2), lot, reserve, pays, values, chances, years);
            }
            if (!isLong || turn % 12 == 11) {
                look(x, seed, years, chances, random);
            }
        }
        Due.is("seed " + seed + ": lot", x.lot(0), lot);
    }

    private static int passes(PaySteer x, long seed, int world, int lot, int reserve, int[] pays, int[] values,
            int[][][] chances, List<Year> years) {
        if (years.size() == 60) {
            Due.is("seed " + seed + ": year() when full", x.year(world), -4);
            return lot;
        }
        int act = x.answer(world);
        boolean out = x.gain(act, world) < 12L * reserve;
        int next = BigInteger.valueOf(75L * lot + 74).mod(BigInteger.valueOf(65537)).intValue();
        int sight = 0;
        for (int left = next % 12 - chances[act][world][0]; left >= 0; left -= chances[act][world][sight]) {
            sight++;
        }
        Due.is("seed " + seed + ": year(" + world + ")", x.year(world), out ? -3 : sight);
        years.add(new Year(act, out ? -1 : sight, out ? 0 : pays[sight], out ? 0 : values[sight], lot, next));
        return next;
    }

    private static void look(PaySteer x, long seed, List<Year> years, int[][][] chances, Random random) {
        long kept = 0;
        long paid = 0;
        for (Year year : years) {
            kept += year.value() - year.paid();
            paid += year.paid();
        }
        String at = "seed " + seed + ": ";
        Due.is(at + "account(0)", x.account(0), kept);
        Due.is(at + "account(1)", x.account(1), paid);
        Due.is(at + "count(4)", x.count(4), years.size());
        int y = random.nextInt(years.size() + 1);
        for (int what = 0; what < 5; what++) {
            Due.is(at + "then(" + y + ", " + what + ")", x.then(y, what),
                    y == years.size() ? -1 : told(years.get(y), what));
        }
        int n = 1 + random.nextInt(16);
        int world = random.nextInt(2);
        int suspect = -1;
        BigInteger most = null;
        for (int a = 0; a < 3; a++) {
            BigInteger product = BigInteger.ONE;
            for (int i = 1; i <= n && n <= years.size(); i++) {
                int sight = years.get(years.size() - i).sight();
                product = sight < 0 ? product : product.multiply(BigInteger.valueOf(chances[a][world][sight]));
            }
            long due = n <= years.size() ? product.longValueExact() : Long.MIN_VALUE;
            Due.is(at + "likely(" + a + ", " + world + ", " + n + ")", x.likely(a, world, n), due);
            if (n <= years.size() && (most == null || product.compareTo(most) > 0)) {
                suspect = a;
                most = product;
            }
        }
        Due.is(at + "suspect(" + world + ", " + n + ")", x.suspect(world, n), suspect);
    }

    private static int told(Year year, int what) {
        int[] all = {year.act(), year.sight(), year.paid(), year.sight() < 0 ? 1 : 0, year.lot()};
        return all[what];
    }

    private static int does(int k, int rateX, int rateY) {
        int best = 0;
        int most = Integer.MIN_VALUE;
        for (int x = 8; x >= 0; x--) {
            for (int y = 8; y >= 0; y--) {
                int left = rateX * x + rateY * y - (x * x + y * y + k * x * y);
                if (left >= most) {
                    most = left;
                    best = 10 * x + y;
                }
            }
        }
        return best;
    }

    private static void checkTasks(long seed) {
        Random random = new Random(seed);
        PaySteer x = new PaySteer(0);
        int k = (int) (seed % 10);
        int worthX = random.nextInt(seed < 30 ? 100 : 30);
        int worthY = random.nextInt(seed < 30 ? 100 : 30);
        x.tasks(k, worthX, worthY);
        int[] best = {0, 0, 0};
        int[] most = {Integer.MIN_VALUE, Integer.MIN_VALUE, Integer.MIN_VALUE};
        for (int rateX = 40; rateX >= 0; rateX--) {
            PaySteer doing = new PaySteer(0);
            doing.tasks(k, worthX, worthY);
            for (int rateY = 40; rateY >= 0; rateY--) {
                int both = does(k, rateX, rateY);
                Due.is("k " + k + ": doesBoth(" + rateX + ", " + rateY + ")", doing.doesBoth(rateX, rateY), both);
                int kept = (worthX - rateX) * (both / 10) + (worthY - rateY) * (both % 10);
                for (int seen = 0; seen < 3; seen++) {
                    boolean may = seen == 0 || seen == 1 && rateY == 0 || seen == 2 && rateX == 0;
                    if (may && kept >= most[seen]) {
                        most[seen] = kept;
                        best[seen] = 100 * rateX + rateY;
                    }
                }
            }
        }
        for (int seen = 0; seen < 3; seen++) {
            Due.is("seed " + seed + ": rates(" + seen + ")", x.rates(seen), best[seen]);
        }
    }

    private static void checkRatchets() {
        for (int all = 0; all < 2 * 41 * 10; all++) {
            PaySteer x = new PaySteer(0);
            int kind = all / 410;
            int rate = all / 10 % 41;
            int step = all % 10;
            int[] best = {0, 0, Integer.MIN_VALUE};
            for (int both = 799; both >= -1; both--) {
                for (int m = both < 0 ? 19 : both / 40; m >= (both < 0 ? 0 : both / 40); m--) {
                    boolean leaves = both < 0 || both % 40 >= 20;
                    int n = leaves ? 0 : both % 40;
                    int left = rate * m - (kind + 1) * m * m;
                    left += leaves ? 0 : rate * (n - m - step) - (kind + 1) * n * n;
                    boolean isLess = m < best[0] || m == best[0] && n < best[1];
                    if (left > best[2] || left == best[2] && isLess) {
                        best = new int[] {m, n, left};
                    }
                }
            }
            for (int what = 0; what < 3; what++) {
                Due.is("ratchet(" + kind + ", " + rate + ", " + step + ", " + what + ")",
                        x.ratchet(kind, rate, step, what), best[what]);
            }
        }
    }
}
