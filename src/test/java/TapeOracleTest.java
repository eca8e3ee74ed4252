import java.util.Random;

/**
 * Promises 32 to 36 against another way to work them out: texts are written from contracts that are drawn, and worked
 * out as they are drawn; faults are found by trying how a text that is right so far could go on.
 */
public final class TapeOracleTest {
    private final Random random;
    private final StringBuilder text = new StringBuilder();

    private TapeOracleTest(long seed) {
        random = new Random(seed);
    }

    public static void main(String[] args) {
        for (long seed = 0; seed < 3000; seed++) {
            checkValues(seed);
            checkFaults(seed);
        }
        for (long seed = 0; seed < 300; seed++) {
            checkChoose(seed);
        }
        Due.end("TapeOracleTest");
    }

    private static long kept(long x) {
        return x > 1000000 ? 1000000 : x < -1000000 ? -1000000 : x;
    }

    // Each of these writes a part to the text, and works it out for all four sights at once.

    private long[] sum(int[] v, int open, int size) {
        long[] worked = product(v, open, size);
        for (int more = random.nextInt(3); more > 0; more--) {
            boolean plus = random.nextBoolean();
            text.append(plus ? '+' : '-');
            long[] next = product(v, open, size / 2);
            for (int k = 0; k < 4; k++) {
                worked[k] = kept(plus ? worked[k] + next[k] : worked[k] - next[k]);
            }
        }
        return worked;
    }

    private long[] product(int[] v, int open, int size) {
        long[] worked = atom(v, open, size);
        for (int more = random.nextInt(3) - 1; more > 0; more--) {
            text.append('*');
            long[] next = atom(v, open, size / 2);
            for (int k = 0; k < 4; k++) {
                worked[k] = kept(worked[k] * next[k]);
            }
        }
        return worked;
    }

    private long[] atom(int[] v, int open, int size) {
        int kind = size <= 0 || open >= 5 ? random.nextInt(3) : random.nextInt(8);
        if (kind == 0) {
            text.append('s');
            return new long[] {0, 1, 2, 3};
        }
        if (kind == 1) {
            text.append('v');
            return new long[] {v[0], v[1], v[2], v[3]};
        }
        if (kind == 2) {
            String digits = "" + (random.nextBoolean() ? random.nextInt(10) : random.nextInt(10000));
            text.append(random.nextInt(9) == 0 && digits.length() < 4 ? "0" : "").append(digits);
            long x = Long.parseLong(digits);
            return new long[] {x, x, x, x};
        }
        if (kind == 3) {
            text.append('(');
            long[] inner = sum(v, open + 1, size - 1);
            text.append(')');
            return inner;
        }
        return function(kind, v, open, size);
    }

    private long[] function(int kind, int[] v, int open, int size) {
        text.append(kind == 4 ? "min(" : kind == 5 ? "max(" : "if(");
        long[] one = sum(v, open + 1, size / 2);
        text.append(kind < 6 ? ',' : '<');
        long[] other = sum(v, open + 1, size / 2);
        long[] third = null;
        long[] fourth = null;
        if (kind >= 6) {
            text.append(',');
            third = sum(v, open + 1, size / 2);
            text.append(',');
            fourth = sum(v, open + 1, size / 2);
        }
        text.append(')');
        long[] worked = new long[4];
        for (int k = 0; k < 4; k++) {
            worked[k] = kind == 4 ? Math.min(one[k], other[k]) : kind == 5 ? Math.max(one[k], other[k])
                    : one[k] < other[k] ? third[k] : fourth[k];
        }
        return worked;
    }

    private String drawn(int[] v, long[] worked) {
        do {
            text.setLength(0);
            System.arraycopy(sum(v, 0, 4), 0, worked, 0, 4);
        } while (text.length() > 120);
        return text.toString();
    }

    private static void feed(PaySteer x, String tape, Random random) {
        int at = 0;
        while (at < tape.length()) {
            int n = Math.min(1 + random.nextInt(8), tape.length() - at);
            long w = random.nextLong();
            for (int i = 0; i < n; i++) {
                w = w << 8 | tape.charAt(at + i);
            }
            at += n;
            Due.is("feed to " + tape, x.feed(w, n), at);
        }
    }

    private static void checkValues(long seed) {
        TapeOracleTest run = new TapeOracleTest(seed);
        PaySteer x = new PaySteer(2);
        int[] v = new int[4];
        for (int k = 0; k < 4; k++) {
            v[k] = run.random.nextInt(199) - 99;
            x.value(k, v[k]);
        }
        for (int contract = 0; contract < 4; contract++) {
            long[] worked = new long[4];
            String tape = run.drawn(v, worked);
            feed(x, tape, run.random);
            Due.is("contract " + tape, x.contract(), contract);
            for (int k = 0; k < 4; k++) {
                Due.is("seed " + seed + ": " + tape + " at " + k, x.worth(contract, k),
                        Math.max(0, Math.min(999, worked[k])));
            }
            Due.is("sign", x.sign(contract), 0);
            int k = run.random.nextInt(4);
            Due.is("signed " + tape, x.pay(k, 0), Math.max(0, Math.min(999, worked[k])));
        }
    }

    private static void checkFaults(long seed) {
        TapeOracleTest run = new TapeOracleTest(seed + 100000);
        PaySteer x = new PaySteer(2);
        StringBuilder tape = new StringBuilder(run.drawn(new int[4], new long[4]));
        String signs = "0123456789sv+-*(),<minaxf(((( Z";
        int at = run.random.nextInt(tape.length() + 1);
        char sign = signs.charAt(run.random.nextInt(signs.length()));
        switch (run.random.nextInt(4)) {
            case 0:
                tape.setLength(at);
                break;
            case 1:
                tape.insert(at, sign);
                break;
            case 2:
                tape.insert(at, "(1+");
                break;
            default:
                if (at < tape.length()) {
                    tape.setCharAt(at, sign);
                }
        }
        if (tape.length() > 120) {
            return;
        }
        int fault = fault(tape.toString());
        feed(x, tape.toString(), run.random);
        Due.is("seed " + seed + ": '" + tape + "'", x.contract(), fault < 0 ? 0 : -10 - fault);
        Due.is("the tape is empty then", x.count(5), 0);
    }

    /**
     * The fault by a stack of what must still come: E a sum, T what may come behind an atom, a digit how many more
     * digits may come, and signs as they are. -1: none.
     */
    private static int fault(String tape) {
        StringBuilder due = new StringBuilder("TE");
        int open = 0;
        for (int at = 0; at < tape.length(); at++) {
            char c = tape.charAt(at);
            boolean isDigit = c >= '0' && c <= '9';
            char top = top(due);
            if (top >= '1' && top <= '3' || top == '0') {
                pop(due);
                if (isDigit && top > '0') {
                    due.append((char) (top - 1));
                    continue;
                }
            }
            if (top(due) == 'T') {
                if (c == '+' || c == '-' || c == '*') {
                    due.append('E');
                    continue;
                }
                pop(due);
            }
            top = top(due);
            if (top == 'E') {
                pop(due);
                if (isDigit) {
                    due.append('3');
                } else if (c == 'm') {
                    due.append(")TE,TE(M");
                } else if (c == 'i') {
                    due.append(")TE,TE,TE<TE(f");
                } else if (c == '(' && open < 5) {
                    open++;
                    due.append(")TE");
                } else if (c != 's' && c != 'v') {
                    return at;
                }
            } else if (top == 'M' && (c == 'i' || c == 'a')) {
                pop(due);
                due.append(c == 'i' ? 'n' : 'x');
            } else if (top == c && c != 'M' && (c != '(' || open < 5)) {
                pop(due);
                open += c == '(' ? 1 : c == ')' ? -1 : 0;
            } else {
                return at;
            }
        }
        char top = top(due);
        if (top >= '0' && top <= '3') {
            pop(due);
        }
        return due.toString().equals("T") ? -1 : tape.length();
    }

    private static char top(StringBuilder due) {
        return due.length() == 0 ? '!' : due.charAt(due.length() - 1);
    }

    private static void pop(StringBuilder due) {
        due.setLength(due.length() - 1);
    }

    private static void checkChoose(long seed) {
        TapeOracleTest run = new TapeOracleTest(seed + 200000);
        Random random = run.random;
        PaySteer x = new PaySteer(2);
        int[] v = new int[4];
        for (int k = 0; k < 4; k++) {
            v[k] = random.nextInt(199) - 99;
            x.value(k, v[k]);
        }
        int reserve = random.nextBoolean() ? 0 : random.nextInt(30);
        x.reserve(reserve);
        int[] costs = {random.nextInt(20), random.nextInt(40), random.nextInt(60)};
        int[][] chances = new int[3][4];
        for (int a = 0; a < 3; a++) {
            x.act(costs[a]);
            int row = 0;
            for (int i = 0; i < 4; i++) {
                int k = random.nextInt(4);
                chances[a][k] += 3;
                row += 3 << 4 * k;
            }
            x.chances(a, 1, row);
        }
        int best = -1;
        long most = 0;
        for (int contract = 0; contract < 8; contract++) {
            long[] pays = new long[4];
            String tape;
            if (random.nextBoolean()) {
                tape = "" + 10 * random.nextInt(9);
                java.util.Arrays.fill(pays, Long.parseLong(tape));
            } else {
                tape = run.drawn(v, pays);
            }
            feed(x, tape, random);
            x.contract();
            int act = -1;
            long left = 0;
            long kept = 0;
            for (int a = 0; a < 3; a++) {
                long leftOfA = -12 * costs[a];
                long keptOfA = 0;
                for (int k = 0; k < 4; k++) {
                    long paid = Math.max(0, Math.min(999, pays[k]));
                    leftOfA += chances[a][k] * paid;
                    keptOfA += chances[a][k] * (v[k] - paid);
                }
                if (act < 0 || leftOfA > left || leftOfA == left && keptOfA > kept) {
                    act = a;
                    left = leftOfA;
                    kept = keptOfA;
                }
            }
            if (left >= 12 * reserve && (best < 0 || kept > most)) {
                best = contract;
                most = kept;
            }
        }
        Due.is("seed " + seed + ": choose(1)", x.choose(1), best);
    }
}
