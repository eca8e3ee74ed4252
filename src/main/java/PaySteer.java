/**
 * Pay that steers: one who hires others sees only what comes of their acts, and sets pay by that.
 * What each call promises stands in the document, ../shared/DOC.md.
 */
public final class PaySteer {
    public static final int NONE = -1, BAD = -2, STATE = -3, FULL = -4;
    public static final long NO = Long.MIN_VALUE;

    private static final int NO_VALUE = -1000;
    private static final int PARTS = 12;
    private static final int WORLDS = 2;
    private static final int BOTH_WORLDS = 3;
    private static final int MOST_ACTS = 4;
    private static final int LEAST_SIGHTS = 2;
    private static final int MOST_SIGHTS = 4;
    private static final int MOST_COST = 99;
    private static final int MOST_VALUE = 99;
    private static final int MOST_RESERVE = 99;
    private static final int MOST_PAY = 999;

    private final Acts acts;
    private final Solver solver;
    private final Menus menus;
    private final Promises promises;
    private final Team members;
    private final Contest rivals;
    private final Contracts contracts;
    private final Years years;
    private final TwoTasks efforts;
    private final int[] told;
    private final int[] offered;
    private final int[] joined;

    public PaySteer(int sights) {
        acts = new Acts(LEAST_SIGHTS + Math.floorMod(sights, MOST_SIGHTS - LEAST_SIGHTS + 1));
        solver = new Solver();
        menus = new Menus();
        promises = new Promises();
        members = new Team();
        rivals = new Contest();
        contracts = new Contracts();
        years = new Years();
        efforts = new TwoTasks();
        told = new int[MOST_SIGHTS];
        offered = new int[MOST_SIGHTS];
        joined = new int[MOST_SIGHTS];
    }

    // ---- acts

    public int act(int cost) {
        if (!within(cost, 0, MOST_COST)) {
            return BAD;
        }
        return acts.isFull() ? FULL : acts.add(cost);
    }

    public int cost(int a, int c) {
        if (!acts.isAct(a)) {
            return NONE;
        }
        return within(c, 0, MOST_COST) ? acts.setCost(a, c) : BAD;
    }

    public int chances(int a, int world, int row) {
        if (!acts.isAct(a) || !isWorld(world)) {
            return NONE;
        }
        return acts.setChances(a, world, row) ? 0 : BAD;
    }

    public int value(int sight, int v) {
        if (!acts.isSight(sight) || !within(v, -MOST_VALUE, MOST_VALUE)) {
            return NO_VALUE;
        }
        return acts.setValue(sight, v);
    }

    public int reserve(int r) {
        return within(r, 0, MOST_RESERVE) ? acts.setReserve(r) : BAD;
    }

    public int pay(int sight, int amount) {
        if (!acts.isSight(sight)) {
            return NONE;
        }
        if (!within(amount, 0, MOST_PAY)) {
            return BAD;
        }
        int before = told[sight];
        told[sight] = amount;
        return before;
    }

    public long gain(int a, int world) {
        return acts.isAct(a) && isWorld(world) ? acts.left(a, world, told) : NO;
    }

    public int answer(int world) {
        return isWorld(world) ? acts.answered(world, told) : NONE;
    }

    // ---- the least pay

    public int steers(int a, int worlds) {
        if (!acts.isAct(a)) {
            return NONE;
        }
        if (!isWorldSet(worlds)) {
            return BAD;
        }
        return solvesPay(a, worlds) ? 1 : 0;
    }

    public long least(int a, int worlds, int sight, int what) {
        if (!acts.isAct(a) || !isWorldSet(worlds) || sight != -1 && !acts.isSight(sight)) {
            return NO;
        }
        if (!solvesPay(a, worlds)) {
            return NO;
        }
        return sight == -1 ? part(solver.goal(), PARTS * solver.below(), what)
                : part(solver.unknown(sight), solver.below(), what);
    }

    public long proof(int a, int world, int b, int what) {
        if (!acts.isAct(a) || !isWorld(world) || b == a || b != -1 && !acts.isAct(b)) {
            return NO;
        }
        if (solvesPay(a, 1 << world)) {
            return NO;
        }
        acts.askShares(solver, a, world);
        if (!solver.solves()) {
            return NO;
        }
        return b == -1 ? part(solver.goal(), solver.below(), what)
                : part(solver.unknown(Acts.placeBeside(a, b)), solver.below(), what);
    }

    public int best(int world) {
        if (!isWorld(world)) {
            return NONE;
        }
        int found = NONE;
        long foundAbove = 0;
        long foundBelow = 1;
        for (int a = 0; a < acts.howMany(); a++) {
            if (solvesPay(a, 1 << world)) {
                long above = keptOfLeast(a, world);
                long below = solver.below();
                if (found == NONE || above * foundBelow > foundAbove * below) {
                    found = a;
                    foundAbove = above;
                    foundBelow = below;
                }
            }
        }
        return found;
    }

    public long bestGain(int world, int what) {
        int a = best(world);
        if (a == NONE || !solvesPay(a, 1 << world)) {
            return NO;
        }
        return part(keptOfLeast(a, world), PARTS * solver.below(), what);
    }

    public long coarser(int a, int world, int joins, int what) {
        if (!acts.isAct(a) || !isWorld(world) || !readsJoins(joins)) {
            return NO;
        }
        acts.askPay(solver, a, 1 << world, joined);
        return solver.solves() ? part(solver.goal(), PARTS * solver.below(), what) : NO;
    }

    // ---- menus

    public int work(int q, int v) {
        if (!within(q, 1, Menus.MOST_WORK)) {
            return NONE;
        }
        return within(v, 0, Menus.MOST_SUM) ? menus.setValue(q, v) : BAD;
    }

    public int menu(int rate0, int rate1, int m, int n, int what) {
        if (!within(what, 0, Menus.LAST_WHAT)) {
            return NONE;
        }
        if (!Menus.areRates(rate0, rate1) || !Menus.areHeads(m, n)) {
            return BAD;
        }
        return menus.told(rate0, rate1, m, n, what);
    }

    public int may(int rate0, int rate1, int q0, int pay0, int q1, int pay1) {
        if (!Menus.areRates(rate0, rate1) || !Menus.isOffer(q0, pay0) || !Menus.isOffer(q1, pay1)) {
            return BAD;
        }
        return Menus.keeps(rate0, q0, pay0, q1, pay1) && Menus.keeps(rate1, q1, pay1, q0, pay0) ? 1 : 0;
    }

    // ---- promises

    public int terms(int c0, int c1, int p0, int p1, int v) {
        boolean fits = Promises.isCostOrChance(c0) && Promises.isCostOrChance(c1)
                && Promises.isCostOrChance(p0) && Promises.isCostOrChance(p1)
                && within(v, 0, Promises.MOST_GOOD);
        if (!fits) {
            return BAD;
        }
        promises.set(c0, c1, p0, p1, v);
        return 0;
    }

    public long promise(int t, int w) {
        return Promises.isTerm(t) && Promises.isPromise(w) ? promises.sum(t, w) : NO;
    }

    public int first(int t, int w, int what) {
        if (promise(t, w) == NO || !within(what, 0, Promises.LAST_WHAT)) {
            return NONE;
        }
        return promises.plan(t, w, what);
    }

    public int start(int t) {
        return Promises.isTerm(t) ? promises.bestPromise(t) : NONE;
    }

    // ---- teams, looks, contests

    public int team(int n, int costs, int shares) {
        if (!within(n, Team.LEAST, Team.MOST) || !Team.areCosts(n, costs) || !Team.areShares(n, shares)) {
            return BAD;
        }
        members.set(n, costs, shares);
        return 0;
    }

    public int all(int k, int g) {
        if (!within(k, 0, Team.MOST)) {
            return NONE;
        }
        return within(g, 0, Team.MOST_GOT) ? members.setGot(k, g) : BAD;
    }

    public int has(int set, int i) {
        if (!members.isMember(i)) {
            return NONE;
        }
        return members.isSet(set) ? members.keeps(set, i) : BAD;
    }

    public int holds(int set, int how) {
        if (!within(how, 0, 1)) {
            return NONE;
        }
        if (!members.isSet(set)) {
            return BAD;
        }
        return members.firstBreak(set, how == 1) == NONE ? 1 : 0;
    }

    public int breaks(int set) {
        return members.isSet(set) ? members.firstBreak(set, false) : BAD;
    }

    public long look(int x, int f, int what) {
        // Hiding gains nothing as soon as chance times (x and f) is not below x.
        return within(x, 1, MOST_PAY) && within(f, 0, MOST_PAY) ? part(x, x + f, what) : NO;
    }

    public int contest(int prize, int costs, int heads) {
        if (!within(prize, 0, MOST_PAY) || !Contest.areCosts(costs) || !within(heads, 0, Contest.MOST_HEADS)) {
            return BAD;
        }
        rivals.set(prize, costs, heads);
        return 0;
    }

    public int calms() {
        return rivals.howManyCalm();
    }

    public int calm(int i) {
        return rivals.calmAt(i);
    }

    // ---- contracts

    public int feed(long w, int n) {
        if (!within(n, 1, Contracts.MOST_FED)) {
            return BAD;
        }
        return contracts.hasRoom(n) ? contracts.append(w, n) : FULL;
    }

    public int contract() {
        return contracts.isFull() ? FULL : contracts.readTape();
    }

    public int worth(int k, int sight) {
        if (!contracts.isContract(k) || !acts.isSight(sight)) {
            return NONE;
        }
        return contracts.paid(k, sight, acts.valueAt(sight));
    }

    public int sign(int k) {
        if (!contracts.isContract(k)) {
            return NONE;
        }
        writePay(k, told);
        return 0;
    }

    public int choose(int world) {
        if (!isWorld(world)) {
            return NONE;
        }
        int found = NONE;
        long most = NO;
        for (int k = 0; k < contracts.howMany(); k++) {
            writePay(k, offered);
            int a = acts.answered(world, offered);
            if (acts.isAct(a) && acts.stays(a, world, offered)) {
                long kept = acts.kept(a, world, offered);
                if (found == NONE || kept > most) {
                    found = k;
                    most = kept;
                }
            }
        }
        return found;
    }

    // ---- years

    public int lot(int x) {
        return within(x, 0, Years.LOTS - 1) ? years.setLot(x) : BAD;
    }

    public int year(int world) {
        int a = answer(world);
        if (a == NONE) {
            return NONE;
        }
        if (years.isFull()) {
            return FULL;
        }
        if (!acts.stays(a, world, told)) {
            years.pass(a, NONE, 0, 0);
            return STATE;
        }
        int sight = acts.sightAt(a, world, Math.floorMod(years.nextLot(), PARTS));
        if (!acts.isSight(sight)) {
            return NONE;
        }
        years.pass(a, sight, told[sight], acts.valueAt(sight));
        return sight;
    }

    public int back() {
        return years.howMany() == 0 ? NONE : years.takeBack();
    }

    public int then(int y, int what) {
        return years.isYear(y) ? years.told(y, what) : NONE;
    }

    public long account(int whose) {
        return within(whose, 0, 1) ? years.sum(whose) : NO;
    }

    public long likely(int a, int world, int n) {
        if (!acts.isAct(a) || !isWorld(world) || !years.areLatest(n)) {
            return NO;
        }
        long product = 1;
        for (int y = years.howMany() - n; y < years.howMany(); y++) {
            int sight = years.told(y, Years.SIGHT);
            if (acts.isSight(sight)) {
                product *= acts.chanceAt(a, world, sight);
            }
        }
        return product;
    }

    public int suspect(int world, int n) {
        int found = NONE;
        long most = NO;
        for (int a = 0; a < acts.howMany(); a++) {
            long now = likely(a, world, n);
            if (now > most) {
                found = a;
                most = now;
            }
        }
        return found;
    }

    // ---- two tasks, a ratchet

    public int tasks(int k, int x, int y) {
        if (!within(k, 0, TwoTasks.MOST_TIE) || !within(x, 0, TwoTasks.MOST_WORTH)
                || !within(y, 0, TwoTasks.MOST_WORTH)) {
            return BAD;
        }
        efforts.set(k, x, y);
        return 0;
    }

    public int doesBoth(int rateX, int rateY) {
        return TwoTasks.isRate(rateX) && TwoTasks.isRate(rateY) ? efforts.taken(rateX, rateY) : BAD;
    }

    public int rates(int seen) {
        return within(seen, 0, TwoTasks.JUST_Y) ? efforts.bestRates(seen) : NONE;
    }

    public int ratchet(int kind, int rate, int step, int what) {
        if (!within(kind, 0, 1) || !within(what, 0, 2)) {
            return NONE;
        }
        if (!TwoTasks.isRate(rate) || !within(step, 0, Ratchet.MOST_STEP)) {
            return BAD;
        }
        return Ratchet.taken(kind, rate, step, what);
    }

    public int count(int what) {
        switch (what) {
            case 0:
                return acts.howMany();
            case 1:
                return acts.howManySights();
            case 2:
                return acts.reserved();
            case 3:
                return contracts.howMany();
            case 4:
                return years.howMany();
            case 5:
                return contracts.tapeLength();
            default:
                return NONE;
        }
    }

    // ---- what several calls need

    private boolean solvesPay(int a, int worlds) {
        for (int k = 0; k < MOST_SIGHTS; k++) {
            joined[k] = k;
        }
        acts.askPay(solver, a, worlds, joined);
        return solver.solves();
    }

    /** Mean value less mean pay, times 12 and times what stands below in the solver, which has just solved for a. */
    private long keptOfLeast(int a, int world) {
        return acts.valued(a, world) * solver.below() - solver.goal();
    }

    private boolean readsJoins(int joins) {
        int sights = acts.howManySights();
        if (joins >>> 4 * sights != 0) {
            return false;
        }
        for (int k = 0; k < sights; k++) {
            joined[k] = joins >>> 4 * k & 15;
            if (!acts.isSight(joined[k])) {
                return false;
            }
        }
        return true;
    }

    private void writePay(int k, int[] pays) {
        for (int sight = 0; sight < acts.howManySights(); sight++) {
            pays[sight] = contracts.paid(k, sight, acts.valueAt(sight));
        }
    }

    private static boolean within(int x, int from, int to) {
        return x >= from && x <= to;
    }

    private static boolean isWorld(int world) {
        return within(world, 0, WORLDS - 1);
    }

    private static boolean isWorldSet(int worlds) {
        return within(worlds, 1, BOTH_WORLDS);
    }

    /** What is above (what 0) or below (1) of a fraction without a common divisor. */
    private static long part(long above, long below, int what) {
        long shared = commonDivisor(Math.abs(above), below);
        if (!within(what, 0, 1) || below <= 0 || shared <= 0) {
            return NO;
        }
        return (what == 0 ? above : below) / shared;
    }

    private static long commonDivisor(long x, long y) {
        long big = x;
        long small = y;
        for (int turn = 0; turn < 1000 && small != 0; turn++) {
            long rest = big % small;
            big = small;
            small = rest;
        }
        return big;
    }

    /** The acts, what comes of them, and what the sights are worth to the one who hires. */
    private static final class Acts {
        private final int sights;
        private final int[] costs = new int[MOST_ACTS];
        private final int[][] chances = new int[MOST_ACTS * WORLDS][MOST_SIGHTS];
        private final int[] values = new int[MOST_SIGHTS];
        private int many;
        private int reserve;

        Acts(int sights) {
            this.sights = sights;
        }

        int howMany() {
            return many;
        }

        int howManySights() {
            return sights;
        }

        int reserved() {
            return reserve;
        }

        boolean isFull() {
            return many >= MOST_ACTS;
        }

        boolean isAct(int a) {
            return a >= 0 && a < many;
        }

        boolean isSight(int sight) {
            return sight >= 0 && sight < sights;
        }

        int add(int cost) {
            int a = many;
            costs[a] = cost;
            for (int world = 0; world < WORLDS; world++) {
                chances[a * WORLDS + world][0] = PARTS;
            }
            many = a + 1;
            return a;
        }

        int setCost(int a, int cost) {
            int before = costs[a];
            costs[a] = cost;
            return before;
        }

        /** Takes chances as digits to the base 16; false, and nothing changed, if they are not as told. */
        boolean setChances(int a, int world, int digits) {
            if (digits >>> 4 * sights != 0) {
                return false;
            }
            int sum = 0;
            for (int k = 0; k < sights; k++) {
                sum += digits >>> 4 * k & 15;
            }
            if (sum != PARTS) {
                return false;
            }
            for (int k = 0; k < sights; k++) {
                chances[a * WORLDS + world][k] = digits >>> 4 * k & 15;
            }
            return true;
        }

        int setValue(int sight, int v) {
            int before = values[sight];
            values[sight] = v;
            return before;
        }

        int setReserve(int r) {
            int before = reserve;
            reserve = r;
            return before;
        }

        int valueAt(int sight) {
            return values[sight];
        }

        int chanceAt(int a, int world, int sight) {
            return chances[a * WORLDS + world][sight];
        }

        // Means and what is left are told times 12, so that they are whole.

        long paid(int a, int world, int[] pays) {
            long sum = 0;
            for (int k = 0; k < sights; k++) {
                sum += (long) chanceAt(a, world, k) * pays[k];
            }
            return sum;
        }

        long valued(int a, int world) {
            return paid(a, world, values);
        }

        long left(int a, int world, int[] pays) {
            return paid(a, world, pays) - PARTS * costs[a];
        }

        long kept(int a, int world, int[] pays) {
            return valued(a, world) - paid(a, world, pays);
        }

        boolean stays(int a, int world, int[] pays) {
            return left(a, world, pays) >= PARTS * reserve;
        }

        int answered(int world, int[] pays) {
            int found = NONE;
            for (int a = 0; a < many; a++) {
                if (found == NONE || isRather(a, found, world, pays)) {
                    found = a;
                }
            }
            return found;
        }

        private boolean isRather(int a, int b, int world, int[] pays) {
            long leftA = left(a, world, pays);
            long leftB = left(b, world, pays);
            return leftA > leftB || leftA == leftB && kept(a, world, pays) > kept(b, world, pays);
        }

        /** The first sight with chances up to it above x (0 .. 11). */
        int sightAt(int a, int world, int x) {
            int upTo = 0;
            for (int k = 0; k < sights; k++) {
                upTo += chanceAt(a, world, k);
                if (upTo > x) {
                    return k;
                }
            }
            return NONE;
        }

        /** Asks the solver for the least pay that steers to a; sight k is told as sight to[k]. */
        void askPay(Solver solver, int a, int worlds, int[] to) {
            solver.begin(sights);
            int firstWorld = (worlds & 1) != 0 ? 0 : 1;
            for (int k = 0; k < sights; k++) {
                solver.addGoal(to[k], chanceAt(a, firstWorld, k));
            }
            for (int world = 0; world < WORLDS; world++) {
                if ((worlds >> world & 1) != 0) {
                    askPayIn(solver, a, world, to);
                }
            }
        }

        private void askPayIn(Solver solver, int a, int world, int[] to) {
            solver.addRow(PARTS * (costs[a] + reserve));
            for (int k = 0; k < sights; k++) {
                solver.add(to[k], chanceAt(a, world, k));
            }
            for (int b = 0; b < many; b++) {
                if (b != a) {
                    solver.addRow(PARTS * (costs[a] - costs[b]));
                    for (int k = 0; k < sights; k++) {
                        solver.add(to[k], chanceAt(a, world, k) - chanceAt(b, world, k));
                    }
                }
            }
        }

        /** Asks the solver for the shares of the other acts that come to just the chances of a. */
        void askShares(Solver solver, int a, int world) {
            solver.begin(many - 1);
            for (int b = 0; b < many; b++) {
                if (b != a) {
                    solver.addGoal(placeBeside(a, b), costs[b]);
                }
            }
            for (int k = 0; k < sights; k++) {
                askSharesAt(solver, a, world, k, 1);
                askSharesAt(solver, a, world, k, -1);
            }
        }

        /** A row that asks for enough (sign 1), or for not too much (-1), at one sight. */
        private void askSharesAt(Solver solver, int a, int world, int sight, int sign) {
            solver.addRow(sign * chanceAt(a, world, sight));
            for (int b = 0; b < many; b++) {
                if (b != a) {
                    solver.add(placeBeside(a, b), sign * chanceAt(b, world, sight));
                }
            }
        }

        /** The place of b among the acts other than a. */
        static int placeBeside(int a, int b) {
            return b < a ? b : b - 1;
        }
    }

    /**
     * Finds unknowns (0 or more) with the least goal, of several those with the least first unknown, then the
     * next one, so that each row has what it needs. Each line of the table tells something (the goal, an unknown,
     * what a row has beyond its need) by those of them that are 0 now: column 0 is what it is then, the others how
     * it grows with each; all over one common number below. Started at 0, lines below 0 are mended one by one
     * (the dual simplex); the column is taken so that the goal and the unknowns together grow least, and as they
     * always grow, no table comes twice.
     */
    private static final class Solver {
        private static final int MOST_UNKNOWNS = 4;
        private static final int MOST_LINES = 1 + MOST_UNKNOWNS + 8;
        private static final int MOST_TURNS = 100000;

        private final long[][] table = new long[MOST_LINES][MOST_UNKNOWNS + 1];
        private int unknowns;
        private int lines;
        private long below = 1;

        void begin(int howMany) {
            unknowns = Math.max(0, Math.min(howMany, MOST_UNKNOWNS));
            lines = 0;
            for (int i = 0; i <= unknowns; i++) {
                addLine();
                if (i > 0) {
                    table[i][i] = 1;
                }
            }
            below = 1;
        }

        private void addLine() {
            if (lines < MOST_LINES) {
                for (int j = 0; j <= MOST_UNKNOWNS; j++) {
                    table[lines][j] = 0;
                }
                lines++;
            }
        }

        void addGoal(int unknown, int by) {
            if (within(unknown, 0, unknowns - 1)) {
                table[0][unknown + 1] += by;
            }
        }

        void addRow(int need) {
            addLine();
            table[lines - 1][0] = -need;
        }

        /** Adds to the latest row. */
        void add(int unknown, int by) {
            if (lines > 0 && within(unknown, 0, unknowns - 1)) {
                table[lines - 1][unknown + 1] += by;
            }
        }

        boolean solves() {
            for (int turn = 0; turn < MOST_TURNS; turn++) {
                int line = firstBroken();
                if (line < 0) {
                    return true;
                }
                int column = mending(line);
                if (column < 0) {
                    return false;
                }
                exchange(line, column);
            }
            return false;
        }

        private int firstBroken() {
            for (int i = 1; i < lines; i++) {
                if (table[i][0] < 0) {
                    return i;
                }
            }
            return -1;
        }

        private int mending(int line) {
            int found = -1;
            for (int j = 1; j <= unknowns; j++) {
                if (table[line][j] > 0 && (found < 0 || growsLess(j, found, line))) {
                    found = j;
                }
            }
            return found;
        }

        /** Whether to mend a line by column j makes goal, then unknowns, grow less than by column k. */
        private boolean growsLess(int j, int k, int line) {
            for (int i = 0; i <= unknowns; i++) {
                long byJ = table[i][j] * table[line][k];
                long byK = table[i][k] * table[line][j];
                if (byJ != byK) {
                    return byJ < byK;
                }
            }
            return false;
        }

        private void exchange(int line, int column) {
            long by = table[line][column];
            if (below <= 0 || by <= 0) {
                return;
            }
            for (int i = 0; i < lines; i++) {
                if (i != line) {
                    long mine = table[i][column];
                    for (int j = 0; j <= unknowns; j++) {
                        if (j != column) {
                            // Both are minors of the first table, so that this leaves no rest.
                            table[i][j] = (table[i][j] * by - mine * table[line][j]) / below;
                        }
                    }
                }
            }
            for (int j = 0; j <= unknowns; j++) {
                table[line][j] = j == column ? by : 0;
            }
            below = by;
        }

        long goal() {
            return table[0][0];
        }

        long unknown(int i) {
            return within(i, 0, unknowns - 1) ? table[i + 1][0] : 0;
        }

        long below() {
            return below;
        }
    }

    /** Menus for two kinds, by what work is worth. */
    private static final class Menus {
        static final int MOST_WORK = 9;
        static final int MOST_SUM = 9999;
        static final int LAST_WHAT = 5;
        private static final int MOST_RATE = 20;
        private static final int MOST_HEADS = 20;

        private final int[] values = new int[MOST_WORK + 1];

        static boolean areRates(int rate0, int rate1) {
            return rate0 >= 1 && rate0 < rate1 && rate1 <= MOST_RATE;
        }

        static boolean areHeads(int m, int n) {
            return m > 0 && m < n && n <= MOST_HEADS;
        }

        static boolean isOffer(int q, int amount) {
            return within(q, 0, MOST_WORK) && within(amount, 0, MOST_SUM);
        }

        /** Whether a kind with this rate would rather have neither the other offer nor nothing. */
        static boolean keeps(int rate, int q, int amount, int otherQ, int otherAmount) {
            int left = amount - rate * q * q;
            return left >= 0 && left >= otherAmount - rate * otherQ * otherQ;
        }

        int setValue(int q, int v) {
            int before = values[q];
            values[q] = v;
            return before;
        }

        int told(int rate0, int rate1, int m, int n, int what) {
            int found0 = 0;
            int found1 = 0;
            int most = 0;
            for (int q0 = 0; q0 <= MOST_WORK; q0++) {
                // With less work for kind 0 than for kind 1 one of them would always rather have the other's.
                for (int q1 = 0; q1 <= q0; q1++) {
                    int sum = (n - m) * (values[q0] - leastPay0(rate0, rate1, q0, q1))
                            + m * (values[q1] - leastPay1(rate1, q1));
                    if (sum > most) {
                        found0 = q0;
                        found1 = q1;
                        most = sum;
                    }
                }
            }
            switch (what) {
                case 0:
                    return found0;
                case 1:
                    return leastPay0(rate0, rate1, found0, found1);
                case 2:
                    return found1;
                case 3:
                    return leastPay1(rate1, found1);
                case 4:
                    return found0 == found1 ? 1 : 0;
                default:
                    return most;
            }
        }

        /** Kind 0 must have what the other offer would leave it. */
        private static int leastPay0(int rate0, int rate1, int q0, int q1) {
            return rate0 * q0 * q0 + (rate1 - rate0) * q1 * q1;
        }

        private static int leastPay1(int rate1, int q1) {
            return rate1 * q1 * q1;
        }
    }

    /** Promises over several terms: what the one who hires can have with each, worked out when it is first asked. */
    private static final class Promises {
        static final int MOST_GOOD = 99;
        static final int LAST_WHAT = 3;
        private static final int MOST_TERMS = 6;
        private static final int MOST_PROMISED = 12;
        private static final int MOST_AHEAD = 6;
        private static final int PLAN = LAST_WHAT + 1;

        private final int[] costs = {0, 3};
        private final int[] chances = {3, 9};
        private final long[][] sums = new long[MOST_TERMS + 1][MOST_PROMISED + 1];
        private final int[][] plans = new int[MOST_TERMS + 1][(MOST_PROMISED + 1) * PLAN];
        private int good = 10;
        private boolean known;

        static boolean isCostOrChance(int x) {
            return within(x, 0, PARTS);
        }

        static boolean isTerm(int t) {
            return within(t, 1, MOST_TERMS);
        }

        static boolean isPromise(int w) {
            return within(w, 0, MOST_PROMISED);
        }

        void set(int c0, int c1, int p0, int p1, int v) {
            costs[0] = c0;
            costs[1] = c1;
            chances[0] = p0;
            chances[1] = p1;
            good = v;
            known = false;
        }

        long sum(int t, int w) {
            learn();
            return sums[t][w];
        }

        int plan(int t, int w, int what) {
            learn();
            return plans[t][w * PLAN + what];
        }

        int bestPromise(int t) {
            learn();
            int found = NONE;
            long most = NO;
            for (int w = 0; w <= MOST_PROMISED; w++) {
                if (sums[t][w] > most) {
                    found = w;
                    most = sums[t][w];
                }
            }
            return found;
        }

        private void learn() {
            if (known) {
                return;
            }
            for (int w = 0; w <= MOST_PROMISED; w++) {
                sums[0][w] = w == 0 ? 0 : NO;
            }
            long whole = 1;
            for (int t = 1; t <= MOST_TERMS; t++) {
                learnTerm(t, whole);
                whole *= PARTS;
            }
            known = true;
        }

        /** One term more ahead of the t - 1 that follow, whose sums are told times whole. */
        private void learnTerm(int t, long whole) {
            for (int w = 0; w <= MOST_PROMISED; w++) {
                sums[t][w] = NO;
            }
            for (int done = 0; done <= 1; done++) {
                for (int ahead = 0; ahead <= MOST_AHEAD; ahead++) {
                    long now = whole * (chances[done] * good - PARTS * ahead);
                    for (int u = 0; u <= MOST_PROMISED; u++) {
                        for (int d = 0; d <= MOST_PROMISED; d++) {
                            weigh(t, now, done, ahead, u, d);
                        }
                    }
                }
            }
        }

        private void weigh(int t, long now, int done, int ahead, int u, int d) {
            int follows = followsOf(done, u, d);
            int w = ahead - costs[done] + follows / PARTS;
            if (follows % PARTS != 0 || !isPromise(w) || !isWilling(done, u, d)
                    || sums[t - 1][u] == NO || sums[t - 1][d] == NO) {
                return;
            }
            long sum = now + chances[done] * sums[t - 1][u] + (PARTS - chances[done]) * sums[t - 1][d];
            if (sum > sums[t][w]) {
                sums[t][w] = sum;
                plans[t][w * PLAN] = done;
                plans[t][w * PLAN + 1] = ahead;
                plans[t][w * PLAN + 2] = u;
                plans[t][w * PLAN + 3] = d;
            }
        }

        /** What follows is worth to the hired with an act, times 12. */
        private int followsOf(int done, int u, int d) {
            return chances[done] * u + (PARTS - chances[done]) * d;
        }

        private boolean isWilling(int done, int u, int d) {
            int other = 1 - done;
            return followsOf(done, u, d) - PARTS * costs[done] >= followsOf(other, u, d) - PARTS * costs[other];
        }
    }

    /** A team that shares what it gets by how many work. */
    private static final class Team {
        static final int LEAST = 2;
        static final int MOST = 4;
        static final int MOST_GOT = 999;
        private static final int SHARES = 24;
        private static final int DIGIT = 7;

        private final int[] costs = new int[MOST];
        private final int[] shares = new int[MOST];
        private final int[] got = new int[MOST + 1];
        private int many = LEAST;

        private static int digitAt(int digits, int i) {
            return digits >>> DIGIT * i & (1 << DIGIT) - 1;
        }

        private static boolean hasMoreDigits(int n, int digits) {
            return digits >>> DIGIT * n != 0;
        }

        static boolean areCosts(int n, int digits) {
            for (int i = 0; i < n; i++) {
                if (digitAt(digits, i) > MOST_COST) {
                    return false;
                }
            }
            return !hasMoreDigits(n, digits);
        }

        static boolean areShares(int n, int digits) {
            int sum = 0;
            for (int i = 0; i < n; i++) {
                sum += digitAt(digits, i);
            }
            return sum <= SHARES && !hasMoreDigits(n, digits);
        }

        void set(int n, int costDigits, int shareDigits) {
            many = n;
            for (int i = 0; i < n; i++) {
                costs[i] = digitAt(costDigits, i);
                shares[i] = digitAt(shareDigits, i);
            }
        }

        int setGot(int k, int g) {
            int before = got[k];
            got[k] = g;
            return before;
        }

        boolean isMember(int i) {
            return i >= 0 && i < many;
        }

        boolean isSet(int set) {
            return set >= 0 && set < 1 << many;
        }

        int keeps(int set, int i) {
            int share = shares[i] * got[Integer.bitCount(set)] / SHARES;
            return (set >> i & 1) != 0 ? share - costs[i] : share;
        }

        /** The first set that breaks a row of works, of all sets or of those with a single member. */
        int firstBreak(int set, boolean alone) {
            for (int by = 1; by < 1 << many; by++) {
                if ((!alone || Integer.bitCount(by) == 1) && allGain(set, by)) {
                    return by;
                }
            }
            return NONE;
        }

        private boolean allGain(int set, int by) {
            for (int i = 0; i < many; i++) {
                if ((by >> i & 1) != 0 && keeps(set ^ by, i) <= keeps(set, i)) {
                    return false;
                }
            }
            return true;
        }
    }

    /** A contest of two for a prize. */
    private static final class Contest {
        static final int MOST_HEADS = 99;
        private static final int EFFORTS = 9;

        private final int[] costs = {1, 1};
        private final int[] heads = new int[2];
        private int prize;

        static boolean areCosts(int digits) {
            return within(digits, 11, 99) && digits % 10 != 0;
        }

        void set(int z, int costDigits, int headDigits) {
            prize = z;
            costs[0] = costDigits / 10;
            costs[1] = costDigits % 10;
            heads[0] = headDigits / 10;
            heads[1] = headDigits % 10;
        }

        int howManyCalm() {
            int many = 0;
            for (int both = 0; both < EFFORTS * EFFORTS; both++) {
                if (isCalm(both / EFFORTS, both % EFFORTS)) {
                    many++;
                }
            }
            return many;
        }

        int calmAt(int place) {
            int many = 0;
            for (int both = 0; both < EFFORTS * EFFORTS; both++) {
                if (isCalm(both / EFFORTS, both % EFFORTS)) {
                    if (many == place) {
                        return 10 * (both / EFFORTS) + both % EFFORTS;
                    }
                    many++;
                }
            }
            return NONE;
        }

        private boolean isCalm(int mine, int yours) {
            return isContent(0, mine, yours) && isContent(1, yours, mine);
        }

        private boolean isContent(int who, int own, int other) {
            for (int effort = 0; effort < EFFORTS; effort++) {
                if (left(who, effort, other) > left(who, own, other)) {
                    return false;
                }
            }
            return true;
        }

        /** What is left, told twice as great, so that half a prize is whole. */
        private int left(int who, int own, int other) {
            int ahead = Integer.compare(own + heads[who], other + heads[1 - who]);
            return prize * (1 + ahead) - 2 * own * own * costs[who];
        }
    }

    /** The tape, and the contracts that were read from it, kept as their texts. */
    private static final class Contracts {
        static final int MOST_FED = 8;
        private static final int MOST = 8;
        private static final int MOST_BYTES = 120;
        private static final int FAULTS = -10;

        private final byte[] tape = new byte[MOST_BYTES];
        private final byte[][] texts = new byte[MOST][MOST_BYTES];
        private final int[] lengths = new int[MOST];
        private final Reader reader = new Reader();
        private int length;
        private int many;

        int howMany() {
            return many;
        }

        int tapeLength() {
            return length;
        }

        boolean isFull() {
            return many >= MOST;
        }

        boolean isContract(int k) {
            return k >= 0 && k < many;
        }

        boolean hasRoom(int n) {
            return length + n <= MOST_BYTES;
        }

        int append(long w, int n) {
            for (int i = n - 1; i >= 0; i--) {
                tape[length] = (byte) (w >>> 8 * i);
                length++;
            }
            return length;
        }

        int readTape() {
            int end = length;
            length = 0;
            reader.works(tape, end, 0, 0);
            if (reader.fault() >= 0) {
                return FAULTS - reader.fault();
            }
            System.arraycopy(tape, 0, texts[many], 0, end);
            lengths[many] = end;
            many++;
            return many - 1;
        }

        int paid(int k, int sight, int v) {
            long worked = reader.works(texts[k], lengths[k], sight, v);
            return (int) Math.max(0, Math.min(worked, MOST_PAY));
        }
    }

    /**
     * Reads a text and works it out at one sight at once. Both branches of an if are read and worked out, so that
     * the fault does not hang on the sight. After a fault the place stands still, and what is answered is free.
     */
    private static final class Reader {
        private static final int MOST_OPEN = 5;
        private static final int MOST_DIGITS = 4;
        private static final long LIMIT = 1000000;

        private byte[] text = new byte[0];
        private int end;
        private int at;
        private int fault;
        private int sightNumber;
        private int sightValue;

        int fault() {
            return fault;
        }

        long works(byte[] bytes, int length, int sight, int v) {
            text = bytes;
            end = Math.min(length, bytes.length);
            at = 0;
            fault = -1;
            sightNumber = sight;
            sightValue = v;
            long worked = sum(0);
            if (at < end) {
                fail();
            }
            return worked;
        }

        /** The byte that comes next, -1 at the end and behind a fault. */
        private int next() {
            return fault < 0 && at < end ? text[at] & 255 : -1;
        }

        private void fail() {
            if (fault < 0) {
                fault = at;
            }
        }

        private boolean skips(char sign) {
            if (next() != sign) {
                return false;
            }
            at++;
            return true;
        }

        private void needs(char sign) {
            if (!skips(sign)) {
                fail();
            }
        }

        private static long kept(long x) {
            return Math.max(-LIMIT, Math.min(x, LIMIT));
        }

        private long sum(int open) {
            long worked = product(open);
            for (int turn = 0; turn < end; turn++) {
                if (skips('+')) {
                    worked = kept(worked + product(open));
                } else if (skips('-')) {
                    worked = kept(worked - product(open));
                } else {
                    break;
                }
            }
            return worked;
        }

        private long product(int open) {
            long worked = atom(open);
            for (int turn = 0; turn < end && skips('*'); turn++) {
                worked = kept(worked * atom(open));
            }
            return worked;
        }

        private long atom(int open) {
            if (skips('s')) {
                return sightNumber;
            }
            if (skips('v')) {
                return sightValue;
            }
            if (skips('m')) {
                return lesserOrGreater(open);
            }
            if (skips('i')) {
                return oneOfTwo(open);
            }
            if (next() == '(') {
                opens(open);
                long worked = deeper(open);
                needs(')');
                return worked;
            }
            return number();
        }

        private long number() {
            int from = at;
            long worked = 0;
            for (int turn = 0; turn < MOST_DIGITS && next() >= '0' && next() <= '9'; turn++) {
                worked = worked * 10 + next() - '0';
                at++;
            }
            if (at == from) {
                fail();
            }
            return worked;
        }

        private void opens(int open) {
            if (open >= MOST_OPEN) {
                fail();
            }
            needs('(');
        }

        /** A sum behind a ( more. */
        private long deeper(int open) {
            return fault < 0 && open < MOST_OPEN ? sum(open + 1) : 0;
        }

        private long lesserOrGreater(int open) {
            boolean lesser = skips('i');
            if (lesser) {
                needs('n');
            } else {
                needs('a');
                needs('x');
            }
            opens(open);
            long one = deeper(open);
            needs(',');
            long other = deeper(open);
            needs(')');
            return lesser ? Math.min(one, other) : Math.max(one, other);
        }

        private long oneOfTwo(int open) {
            needs('f');
            opens(open);
            long one = deeper(open);
            needs('<');
            long other = deeper(open);
            needs(',');
            long ifLess = deeper(open);
            needs(',');
            long ifNot = deeper(open);
            needs(')');
            return one < other ? ifLess : ifNot;
        }
    }

    /** The years that went by, and the lot by which sights are drawn. */
    private static final class Years {
        static final int LOTS = 65537;
        static final int SIGHT = 1;
        private static final int MOST = 60;
        private static final int MOST_LATEST = 16;

        private final int[] done = new int[MOST];
        private final int[] seen = new int[MOST];
        private final int[] paid = new int[MOST];
        private final int[] valued = new int[MOST];
        private final int[] drawn = new int[MOST];
        private final int[] lotsAhead = new int[MOST];
        private int many;
        private int lot;

        int howMany() {
            return many;
        }

        boolean isFull() {
            return many >= MOST;
        }

        boolean isYear(int y) {
            return y >= 0 && y < many;
        }

        boolean areLatest(int n) {
            return within(n, 1, MOST_LATEST) && n <= many;
        }

        int setLot(int x) {
            int before = lot;
            lot = x;
            return before;
        }

        int nextLot() {
            return (lot * 75 + 74) % LOTS;
        }

        /** A year goes by; no sight stands for a hired that is out. */
        void pass(int a, int sight, int amount, int v) {
            done[many] = a;
            seen[many] = sight;
            paid[many] = amount;
            valued[many] = v;
            drawn[many] = nextLot();
            lotsAhead[many] = lot;
            lot = drawn[many];
            many++;
        }

        int takeBack() {
            many--;
            lot = lotsAhead[many];
            return many;
        }

        int told(int y, int what) {
            switch (what) {
                case 0:
                    return done[y];
                case SIGHT:
                    return seen[y];
                case 2:
                    return paid[y];
                case 3:
                    return seen[y] == NONE ? 1 : 0;
                case 4:
                    return drawn[y];
                default:
                    return NONE;
            }
        }

        long sum(int whose) {
            long sum = 0;
            for (int y = 0; y < many; y++) {
                sum += whose == 0 ? valued[y] - paid[y] : paid[y];
            }
            return sum;
        }
    }

    /** Two tasks, each paid by a rate. */
    private static final class TwoTasks {
        static final int MOST_TIE = 9;
        static final int MOST_WORTH = 99;
        static final int JUST_Y = 2;
        private static final int JUST_X = 1;
        private static final int MOST_RATE = 40;
        private static final int MOST_EFFORT = 8;

        private int tie;
        private int worthX;
        private int worthY;

        static boolean isRate(int rate) {
            return within(rate, 0, MOST_RATE);
        }

        void set(int k, int x, int y) {
            tie = k;
            worthX = x;
            worthY = y;
        }

        /** The efforts that the hired takes: 10 x + y. */
        int taken(int rateX, int rateY) {
            int found = 0;
            int most = 0;
            for (int x = 0; x <= MOST_EFFORT; x++) {
                int y = bestBeside(x, rateY);
                int left = rateX * x + rateY * y - x * x - y * y - tie * x * y;
                if (left > most) {
                    found = 10 * x + y;
                    most = left;
                }
            }
            return found;
        }

        /** The best y beside x: one more is worth it as long as it brings more than 2 y + 1. */
        private int bestBeside(int x, int rateY) {
            return Math.max(0, Math.min((rateY - tie * x) / 2, MOST_EFFORT));
        }

        /** The best rates for the one who hires: 100 times x's, and y's. */
        int bestRates(int seen) {
            int mostX = seen == JUST_Y ? 0 : MOST_RATE;
            int mostY = seen == JUST_X ? 0 : MOST_RATE;
            int found = 0;
            int most = 0;
            for (int rateX = 0; rateX <= mostX; rateX++) {
                for (int rateY = 0; rateY <= mostY; rateY++) {
                    int both = taken(rateX, rateY);
                    int kept = (worthX - rateX) * (both / 10) + (worthY - rateY) * (both % 10);
                    if (kept > most) {
                        found = 100 * rateX + rateY;
                        most = kept;
                    }
                }
            }
            return found;
        }
    }

    /** A bar that is put higher by what was made. */
    private static final class Ratchet {
        static final int MOST_STEP = 9;
        private static final int MOST_MADE = 19;

        static int taken(int kind, int rate, int step, int what) {
            int foundM = 0;
            int foundN = 0;
            int most = 0;
            for (int m = 0; m <= MOST_MADE; m++) {
                int left = rate * m - toil(kind, m);
                if (left > most) {
                    foundM = m;
                    foundN = 0;
                    most = left;
                }
                for (int n = 0; n <= MOST_MADE; n++) {
                    int leftOfBoth = left + rate * (n - m - step) - toil(kind, n);
                    if (leftOfBoth > most) {
                        foundM = m;
                        foundN = n;
                        most = leftOfBoth;
                    }
                }
            }
            return what == 0 ? foundM : what == 1 ? foundN : most;
        }

        private static int toil(int kind, int made) {
            return (kind + 1) * made * made;
        }
    }
}
