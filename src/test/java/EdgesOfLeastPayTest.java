/** Promises 10 to 15: each sentence that names an edge has a test of its own, on objects of its own. */
public final class EdgesOfLeastPayTest {
    private static final int MIN = Integer.MIN_VALUE;
    private static final int MAX = Integer.MAX_VALUE;
    private static final long NO = Long.MIN_VALUE;

    private EdgesOfLeastPayTest() {
    }

    public static void main(String[] args) {
        steers();
        least();
        leastRefused();
        proof();
        proofRefused();
        best();
        bestGain();
        coarser();
        Due.end("EdgesOfLeastPayTest");
    }

    private static PaySteer withActs(int sights, int... costs) {
        PaySteer x = new PaySteer(sights - 2);
        for (int cost : costs) {
            x.act(cost);
        }
        return x;
    }

    /** Act 1 costs 6 more than act 0, and in world 0 makes sight 1 come with 9 of 12 where act 0 makes it with 3. */
    private static PaySteer twoActs() {
        PaySteer x = withActs(2, 0, 6);
        x.chances(0, 0, 0x39);
        x.chances(1, 0, 0x93);
        return x;
    }

    /** Act 1 does what half of act 0 and half of act 2 do; these cost 0 and 10. */
    private static PaySteer between(int cost) {
        PaySteer x = withActs(2, 0, cost, 10);
        x.chances(0, 0, 0x0c);
        x.chances(1, 0, 0x66);
        x.chances(2, 0, 0xc0);
        return x;
    }

    private static void leastIs(PaySteer x, int a, int worlds, int sight, long above, long below) {
        Due.isPart("least(" + a + ", " + worlds + ", " + sight + ")", x.least(a, worlds, sight, 0),
                x.least(a, worlds, sight, 1), above, below);
    }

    private static void proofIs(PaySteer x, int a, int world, int b, long above, long below) {
        Due.isPart("proof(" + a + ", " + world + ", " + b + ")", x.proof(a, world, b, 0),
                x.proof(a, world, b, 1), above, below);
    }

    private static void coarserIs(PaySteer x, int a, int joins, long above, long below) {
        Due.isPart("coarser(" + a + ", 0, " + joins + ")", x.coarser(a, 0, joins, 0), x.coarser(a, 0, joins, 1),
                above, below);
    }

    // ---- promise 10

    private static void steers() {
        aGainAlikeSteers();
        theOnlyActIsSteeredTo();
        payReachesEachReserve();
        steersInEachWorldOfTheSet();
        steersInEachButNotInBoth();
        setsAre1To3();
        steersToNoAct();
        steersNoneAheadOfBad();
    }

    private static void aGainAlikeSteers() {
        Due.by("Promise 10: GAIN is not less than that of each other ACT: alike steers");
        PaySteer x = withActs(2, 5, 5, 6);
        Due.is("alike", x.steers(0, 1), 1);
        Due.is("alike, the other", x.steers(1, 1), 1);
        Due.is("1 dearer", x.steers(2, 1), 0);
        Due.is("just as dear as a mixture", between(5).steers(1, 1), 1);
        Due.is("1 dearer than a mixture", between(6).steers(1, 1), 0);
    }

    private static void theOnlyActIsSteeredTo() {
        Due.by("Promise 10: the only ACT, in each set");
        PaySteer x = withActs(2, 99);
        Due.is("steers(0, 1)", x.steers(0, 1), 1);
        Due.is("steers(0, 2)", x.steers(0, 2), 1);
        Due.is("steers(0, 3)", x.steers(0, 3), 1);
    }

    private static void payReachesEachReserve() {
        Due.by("Promise 10: GAIN not less than RESERVE: some PAY reaches each");
        PaySteer x = twoActs();
        x.reserve(99);
        x.cost(1, 99);
        Due.is("steers(1, 1)", x.steers(1, 1), 1);
        Due.is("steers(0, 1)", x.steers(0, 1), 1);
        Due.is("steers(0, 3)", x.steers(0, 3), 1);
    }

    private static void steersInEachWorldOfTheSet() {
        Due.by("Promise 10: a set of WORLDS (1, 2, 3): in each of them");
        PaySteer x = twoActs();
        Due.is("just world 0", x.steers(1, 1), 1);
        Due.is("just world 1", x.steers(1, 2), 0);
        Due.is("both", x.steers(1, 3), 0);
        x.chances(1, 1, 0x1b);
        Due.is("just world 1", x.steers(1, 2), 1);
        Due.is("both", x.steers(1, 3), 1);
        x.chances(1, 0, 0x39);
        Due.is("just world 0", x.steers(1, 1), 0);
        Due.is("both", x.steers(1, 3), 0);
    }

    private static void steersInEachButNotInBoth() {
        Due.by("Promise 10: the same PAY in each of them");
        PaySteer x = twoActs();
        x.chances(0, 1, 0x93);
        x.chances(1, 1, 0x39);
        Due.is("just world 0", x.steers(1, 1), 1);
        Due.is("just world 1", x.steers(1, 2), 1);
        Due.is("both", x.steers(1, 3), 0);
    }

    private static void setsAre1To3() {
        Due.by("Promise 10: BAD: the set");
        PaySteer x = twoActs();
        for (int set : new int[] {0, 4, 5, 7, -1, MIN, MAX}) {
            Due.is("steers(0, " + set + ")", x.steers(0, set), -2);
        }
    }

    private static void steersToNoAct() {
        Due.by("Promise 10: NONE");
        PaySteer x = twoActs();
        for (int a : new int[] {-1, 2, 3, 4, MIN, MAX}) {
            Due.is("steers(" + a + ", 1)", x.steers(a, 1), -1);
        }
        Due.is("no act at all", new PaySteer(0).steers(0, 1), -1);
    }

    private static void steersNoneAheadOfBad() {
        Due.by("Part 7: of several the first one told: steers, NONE ahead of BAD");
        PaySteer x = twoActs();
        Due.is("steers(2, 0)", x.steers(2, 0), -1);
        Due.is("steers(-1, 4)", x.steers(-1, 4), -1);
    }

    // ---- promise 11

    private static void least() {
        nothingIsPaidForNothing();
        payIs0OrMore();
        gainIsJustTheReserve();
        gainIsJustTheOthers();
        theFirstWorldOfTheSetIsWeighed();
        theSecondWorldIsFirstInItsOwnSet();
        allActsInBothWorlds();
        ofSeveralTheLeastAtSight0();
        ofTheseTheLeastAtSight1();
        ofTheseTheLeastAtTheLastSight();
        fractionsHaveNoCommonDivisor();
    }

    private static void nothingIsPaidForNothing() {
        Due.by("Part 1: FRACTIONS: 0 is 0 by 1");
        PaySteer x = withActs(3, 0, 0);
        for (int sight = -1; sight < 3; sight++) {
            leastIs(x, 0, 1, sight, 0, 1);
            leastIs(x, 1, 3, sight, 0, 1);
        }
    }

    private static void payIs0OrMore() {
        Due.by("Promise 11: PAY (fractions, 0 or more)");
        PaySteer x = twoActs();
        // Pay below 0 at sight 0 would do with a mean of 6.
        leastIs(x, 1, 1, -1, 9, 1);
        leastIs(x, 1, 1, 0, 0, 1);
        leastIs(x, 1, 1, 1, 12, 1);
    }

    private static void gainIsJustTheReserve() {
        Due.by("Promise 11: GAIN not less than RESERVE: just it is enough");
        PaySteer x = twoActs();
        x.reserve(3);
        leastIs(x, 1, 1, -1, 9, 1);
        x.reserve(4);
        leastIs(x, 1, 1, -1, 10, 1);
        leastIs(x, 1, 1, 1, 40, 3);
        leastIs(x, 0, 1, -1, 4, 1);
    }

    private static void gainIsJustTheOthers() {
        Due.by("Promise 11: GAIN not less than the others': just theirs is enough");
        PaySteer x = withActs(2, 0, 3);
        x.chances(1, 0, 0x39);
        leastIs(x, 1, 1, 0, 0, 1);
        leastIs(x, 1, 1, 1, 12, 1);
        leastIs(x, 1, 1, -1, 3, 1);
    }

    private static void theFirstWorldOfTheSetIsWeighed() {
        Due.by("Promise 11: the least MEAN PAY in the first WORLD of the set");
        PaySteer x = withActs(2, 12);
        x.chances(0, 0, 0x39);
        x.chances(0, 1, 0x93);
        // World 0 asks for 9 a + 3 b of 144, world 1 for 3 a + 9 b of 144: both with 12 and 12.
        leastIs(x, 0, 1, -1, 12, 1);
        leastIs(x, 0, 1, 0, 0, 1);
        leastIs(x, 0, 1, 1, 48, 1);
        leastIs(x, 0, 2, -1, 12, 1);
        leastIs(x, 0, 2, 0, 0, 1);
        leastIs(x, 0, 2, 1, 16, 1);
        // Of all with a mean of 12 in world 0 the one with the least at sight 0: 0 and 48, 36 in world 1.
        leastIs(x, 0, 3, -1, 12, 1);
        leastIs(x, 0, 3, 0, 0, 1);
        leastIs(x, 0, 3, 1, 48, 1);
        x.chances(0, 0, 0x93);
        x.chances(0, 1, 0x39);
        // Now 0 and 16 are not enough in world 1: 12 and 12 it is.
        leastIs(x, 0, 3, -1, 12, 1);
        leastIs(x, 0, 3, 0, 12, 1);
        leastIs(x, 0, 3, 1, 12, 1);
    }

    private static void theSecondWorldIsFirstInItsOwnSet() {
        Due.by("Promise 11: the first WORLD of the set: of set 2 it is WORLD 1");
        PaySteer x = withActs(2, 12);
        x.chances(0, 0, 0xc0);
        x.chances(0, 1, 0x66);
        // 6 a + 6 b is 144: all have a mean of 12 in world 1, 24 and 0 would have the least in world 0.
        leastIs(x, 0, 2, -1, 12, 1);
        leastIs(x, 0, 2, 0, 0, 1);
        leastIs(x, 0, 2, 1, 24, 1);
        // In both worlds: 12 b is 144 in world 0, then a is the rest.
        leastIs(x, 0, 3, -1, 12, 1);
        leastIs(x, 0, 3, 0, 12, 1);
        leastIs(x, 0, 3, 1, 12, 1);
    }

    private static void allActsInBothWorlds() {
        Due.by("Promise 11: not less than each other ACT, in each WORLD: 4 ACTS, 4 SIGHTS, both WORLDS");
        PaySteer x = withActs(4, 12, 9, 6, 0);
        for (int a = 0; a < 4; a++) {
            x.chances(a, 0, 12 << 4 * a);
            x.chances(a, 1, 12 << 4 * a);
        }
        // Each is seen for itself: to be as good as the others the pay of sight 0 must be 12.
        leastIs(x, 0, 3, 0, 12, 1);
        leastIs(x, 0, 3, 1, 0, 1);
        x.chances(1, 1, 0x00c);
        // In world 1 act 1 is seen as act 0 is, and costs less.
        Due.is("least(0, 3, 0, 0)", x.least(0, 3, 0, 0), NO);
        x.cost(1, 12);
        leastIs(x, 0, 3, -1, 12, 1);
        x.chances(3, 1, 0x1b);
        // Act 3 has 11 of 12 of sight 0 in world 1: 12 a - 11 a must be 144.
        leastIs(x, 0, 3, -1, 144, 1);
        leastIs(x, 0, 1, -1, 12, 1);
        leastIs(x, 0, 2, -1, 144, 1);
        leastIs(x, 3, 3, -1, 0, 1);
    }

    private static void ofSeveralTheLeastAtSight0() {
        Due.by("Promise 11: of several the one with the least PAY at SIGHT 0");
        PaySteer x = withActs(2, 6);
        x.chances(0, 0, 0x66);
        leastIs(x, 0, 1, 0, 0, 1);
        leastIs(x, 0, 1, 1, 12, 1);
        PaySteer y = twoActs();
        y.reserve(10);
        // 9 a + 3 b is 120, and b not above a and 12.
        leastIs(y, 0, 1, 0, 7, 1);
        leastIs(y, 0, 1, 1, 19, 1);
    }

    private static void ofTheseTheLeastAtSight1() {
        Due.by("Promise 11: then at SIGHT 1, and so on");
        PaySteer x = withActs(4, 3);
        x.chances(0, 0, 0x3333);
        leastIs(x, 0, 1, 0, 0, 1);
        leastIs(x, 0, 1, 1, 0, 1);
        leastIs(x, 0, 1, 2, 0, 1);
        leastIs(x, 0, 1, 3, 12, 1);
        x.chances(0, 0, 0x0444);
        leastIs(x, 0, 1, 1, 0, 1);
        leastIs(x, 0, 1, 2, 9, 1);
        leastIs(x, 0, 1, 3, 0, 1);
        // Sight 0 is paid the least first: act 1 asks for sight 0 or 1, and has nothing of sight 2.
        PaySteer y = withActs(3, 0, 3);
        y.chances(0, 0, 0xc00);
        y.chances(1, 0, 0x066);
        leastIs(y, 1, 1, 0, 0, 1);
        leastIs(y, 1, 1, 1, 6, 1);
        leastIs(y, 1, 1, 2, 0, 1);
    }

    private static void ofTheseTheLeastAtTheLastSight() {
        Due.by("Promise 11: then at SIGHT 1, and so on: at the last one, too");
        // In world 0 act 2 does not come to sight 3: for its mean of 28 the pay there may be 24 or more.
        PaySteer x = withActs(4, 2, 0, 4);
        x.chances(0, 0, 0x0417);
        x.chances(0, 1, 0x1452);
        x.chances(1, 0, 0x2523);
        x.chances(1, 1, 0x2244);
        x.chances(2, 0, 0x0372);
        x.chances(2, 1, 0x2154);
        leastIs(x, 2, 3, -1, 28, 1);
        leastIs(x, 2, 3, 0, 0, 1);
        leastIs(x, 2, 3, 1, 48, 1);
        leastIs(x, 2, 3, 2, 0, 1);
        leastIs(x, 2, 3, 3, 24, 1);
        // Here act 0 needs nothing at sight 3.
        PaySteer y = withActs(4, 6, 2, 4);
        y.chances(0, 0, 0x0228);
        y.chances(0, 1, 0x2406);
        y.chances(1, 0, 0x6600);
        y.chances(1, 1, 0x2064);
        y.chances(2, 0, 0x2424);
        y.chances(2, 1, 0x2424);
        leastIs(y, 0, 3, -1, 9, 1);
        leastIs(y, 0, 3, 0, 12, 1);
        leastIs(y, 0, 3, 1, 0, 1);
        leastIs(y, 0, 3, 2, 6, 1);
        leastIs(y, 0, 3, 3, 0, 1);
    }

    private static void fractionsHaveNoCommonDivisor() {
        Due.by("Part 1: FRACTIONS without a common divisor, below above 0");
        PaySteer x = withActs(2, 5);
        x.chances(0, 0, 0x84);
        leastIs(x, 0, 1, 1, 15, 2);
        leastIs(x, 0, 1, -1, 5, 1);
        x.chances(0, 0, 0x75);
        leastIs(x, 0, 1, 1, 60, 7);
        PaySteer y = twoActs();
        y.cost(1, 7);
        leastIs(y, 1, 1, -1, 21, 2);
        leastIs(y, 1, 1, 1, 14, 1);
    }

    private static void leastRefused() {
        leastAtTheMeanAndAtNoSight();
        leastOfNoAct();
        leastInNoSet();
        leastWhatIs0Or1();
        leastWhereNoneSteers();
    }

    private static void leastAtTheMeanAndAtNoSight() {
        Due.by("Promise 11: at SIGHT -1 its MEAN PAY; NO: none such, SIGHT");
        for (int sights = 2; sights <= 4; sights++) {
            PaySteer x = withActs(sights, 4);
            leastIs(x, 0, 1, -1, 4, 1);
            leastIs(x, 0, 1, 0, 4, 1);
            leastIs(x, 0, 1, sights - 1, 0, 1);
            for (int sight : new int[] {-2, sights, sights + 1, MIN, MAX}) {
                Due.is("least(0, 1, " + sight + ", 0)", x.least(0, 1, sight, 0), NO);
            }
        }
    }

    private static void leastOfNoAct() {
        Due.by("Promise 11: NO: none such, ACT");
        PaySteer x = twoActs();
        for (int a : new int[] {-1, 2, 3, 4, MIN, MAX}) {
            Due.is("least(" + a + ", 1, -1, 0)", x.least(a, 1, -1, 0), NO);
        }
    }

    private static void leastInNoSet() {
        Due.by("Promise 11: NO: none such, set of WORLDS");
        PaySteer x = twoActs();
        for (int set : new int[] {0, 4, 5, -1, MIN, MAX}) {
            Due.is("least(0, " + set + ", -1, 0)", x.least(0, set, -1, 0), NO);
        }
    }

    private static void leastWhatIs0Or1() {
        Due.by("Promise 11: NO: none such, what");
        PaySteer x = twoActs();
        for (int what : new int[] {-1, 2, MIN, MAX}) {
            Due.is("least(0, 1, -1, " + what + ")", x.least(0, 1, -1, what), NO);
            Due.is("least(0, 1, 0, " + what + ")", x.least(0, 1, 0, what), NO);
        }
    }

    private static void leastWhereNoneSteers() {
        Due.by("Promise 11: NO: none STEERS");
        PaySteer x = between(6);
        for (int sight = -1; sight < 2; sight++) {
            Due.is("least(1, 1, " + sight + ", 0)", x.least(1, 1, sight, 0), NO);
            Due.is("least(1, 1, " + sight + ", 1)", x.least(1, 1, sight, 1), NO);
            Due.is("least(1, 3, " + sight + ", 0)", x.least(1, 3, sight, 0), NO);
        }
        x.cost(1, 5);
        leastIs(x, 1, 1, -1, 5, 1);
    }

    // ---- promise 12

    private static void proof() {
        sharesAre0OrMore();
        chancesAreJustThoseOfTheAct();
        sharesAreTogether1();
        theSumIsBelowItsCost();
        theLeastSuchSum();
        theLeastShareOfTheLeastAct();
        thenOfTheNextOne();
        theProofOfOneWorld();
        theReserveIsNoMatter();
    }

    private static void sharesAre0OrMore() {
        Due.by("Promise 12: SHARES: 0 or more; 0 is 0 by 1");
        PaySteer x = withActs(2, 1, 2, 9);
        proofIs(x, 1, 0, 0, 1, 1);
        proofIs(x, 1, 0, 2, 0, 1);
        proofIs(x, 1, 0, -1, 1, 1);
        // Twice act 1 less act 3 would cost just 5.
        PaySteer y = withActs(3, 28, 5, 8, 5);
        y.chances(0, 0, 0x543);
        y.chances(1, 0, 0x354);
        y.chances(2, 0, 0x543);
        y.chances(3, 0, 0x165);
        proofIs(y, 0, 0, 1, 0, 1);
        proofIs(y, 0, 0, 2, 1, 1);
        proofIs(y, 0, 0, 3, 0, 1);
        proofIs(y, 0, 0, -1, 8, 1);
    }

    private static void chancesAreJustThoseOfTheAct() {
        Due.by("Promise 12: CHANCES of these ACTS, times their SHARES, are together just those of the ACT");
        // Two thirds of act 1 and a third of act 3 would be nearly those, for 1.
        PaySteer x = withActs(4, 20, 1, 2, 1);
        x.chances(0, 0, 0x5331);
        x.chances(1, 0, 0x6321);
        x.chances(2, 0, 0x4341);
        x.chances(3, 0, 0x4251);
        proofIs(x, 0, 0, 1, 1, 2);
        proofIs(x, 0, 0, 2, 1, 2);
        proofIs(x, 0, 0, 3, 0, 1);
        proofIs(x, 0, 0, -1, 3, 2);
    }

    private static void sharesAreTogether1() {
        Due.by("Promise 12: SHARES: together 1");
        // Act 0 six times would have more than enough of both sights, for 0.
        PaySteer y = withActs(2, 0, 6, 10);
        y.chances(0, 0, 0x1b);
        y.chances(1, 0, 0x66);
        y.chances(2, 0, 0xc0);
        proofIs(y, 1, 0, 0, 6, 11);
        proofIs(y, 1, 0, 2, 5, 11);
        proofIs(y, 1, 0, -1, 50, 11);
        PaySteer x = between(6);
        proofIs(x, 1, 0, 0, 1, 2);
        proofIs(x, 1, 0, 2, 1, 2);
        proofIs(x, 1, 0, -1, 5, 1);
        x.chances(1, 0, 0x1b);
        x.cost(1, 1);
        proofIs(x, 1, 0, 0, 11, 12);
        proofIs(x, 1, 0, 2, 1, 12);
        proofIs(x, 1, 0, -1, 5, 6);
    }

    private static void theSumIsBelowItsCost() {
        Due.by("Promise 12: the sum of SHARES times COSTS is below its COST");
        PaySteer x = between(5);
        Due.is("alike is not below", x.proof(1, 0, -1, 0), NO);
        Due.is("some pay steers", x.steers(1, 1), 1);
        x.cost(1, 6);
        proofIs(x, 1, 0, -1, 5, 1);
        x.cost(2, 11);
        proofIs(x, 1, 0, -1, 11, 2);
        x.cost(2, 12);
        Due.is("alike again", x.proof(1, 0, -1, 0), NO);
    }

    private static void theLeastSuchSum() {
        Due.by("Promise 12: THE PROOF are those with the least such sum");
        PaySteer x = withActs(2, 8, 6, 3, 5);
        // The same chances at 6, 3 and 5: the one for 3.
        proofIs(x, 0, 0, 1, 0, 1);
        proofIs(x, 0, 0, 2, 1, 1);
        proofIs(x, 0, 0, 3, 0, 1);
        proofIs(x, 0, 0, -1, 3, 1);
    }

    private static void theLeastShareOfTheLeastAct() {
        Due.by("Promise 12: of several the ones with the least SHARE of the least ACT");
        PaySteer x = withActs(2, 3, 3, 8);
        proofIs(x, 2, 0, 0, 0, 1);
        proofIs(x, 2, 0, 1, 1, 1);
        // Acts 0, 1, 2 cost by their chances, so that each mixture sums up to 6: as much as may be by 1 and 2.
        PaySteer y = withActs(2, 3, 6, 12, 9);
        y.chances(0, 0, 0x39);
        y.chances(1, 0, 0x66);
        y.chances(2, 0, 0xc0);
        y.chances(3, 0, 0x66);
        proofIs(y, 3, 0, 0, 0, 1);
        proofIs(y, 3, 0, 1, 1, 1);
        proofIs(y, 3, 0, 2, 0, 1);
        // Without act 1 just a mixture of 0 and 2 is left.
        y.cost(1, 99);
        proofIs(y, 3, 0, 0, 2, 3);
        proofIs(y, 3, 0, 1, 0, 1);
        proofIs(y, 3, 0, 2, 1, 3);
        proofIs(y, 3, 0, -1, 6, 1);
    }

    private static void thenOfTheNextOne() {
        Due.by("Promise 12: then of the next one, and so on");
        PaySteer x = withActs(2, 1, 5, 1, 1);
        proofIs(x, 1, 0, 0, 0, 1);
        proofIs(x, 1, 0, 2, 0, 1);
        proofIs(x, 1, 0, 3, 1, 1);
        PaySteer y = withActs(2, 5, 1, 1, 1);
        proofIs(y, 0, 0, 1, 0, 1);
        proofIs(y, 0, 0, 2, 0, 1);
        proofIs(y, 0, 0, 3, 1, 1);
    }

    private static void theProofOfOneWorld() {
        Due.by("Promise 12: in a set of one WORLD");
        PaySteer x = between(6);
        proofIs(x, 1, 0, 0, 1, 2);
        // In world 1 all have the same chances: act 0 costs 0.
        proofIs(x, 1, 1, 0, 1, 1);
        proofIs(x, 1, 1, 2, 0, 1);
        proofIs(x, 1, 1, -1, 0, 1);
        Due.is("world 0 of act 2", x.proof(2, 0, 0, 0), NO);
        proofIs(x, 2, 1, 0, 1, 1);
    }

    private static void theReserveIsNoMatter() {
        Due.by("Promise 12: the same with each RESERVE");
        PaySteer x = between(6);
        x.reserve(99);
        proofIs(x, 1, 0, 2, 1, 2);
        proofIs(x, 1, 0, -1, 5, 1);
        x.cost(1, 5);
        Due.is("alike is not below", x.proof(1, 0, -1, 0), NO);
    }

    private static void proofRefused() {
        noShareOfItsOwn();
        noShareOfNoAct();
        noProofOfNoAct();
        noProofInNoWorld();
        noProofOfNoWhat();
        noProofIfSomePaySteers();
    }

    private static void noShareOfItsOwn() {
        Due.by("Promise 12: NO: b is a");
        PaySteer x = between(6);
        Due.is("proof(1, 0, 1, 0)", x.proof(1, 0, 1, 0), NO);
        Due.is("proof(1, 0, 1, 1)", x.proof(1, 0, 1, 1), NO);
        Due.is("proof(2, 1, 2, 0)", x.proof(2, 1, 2, 0), NO);
    }

    private static void noShareOfNoAct() {
        Due.by("Promise 12: b -1: the sum; NO: none such, b");
        PaySteer x = between(6);
        proofIs(x, 1, 0, -1, 5, 1);
        for (int b : new int[] {-2, 3, 4, MIN, MAX}) {
            Due.is("proof(1, 0, " + b + ", 0)", x.proof(1, 0, b, 0), NO);
        }
    }

    private static void noProofOfNoAct() {
        Due.by("Promise 12: NO: none such, ACT");
        PaySteer x = between(6);
        for (int a : new int[] {-1, 3, 4, MIN, MAX}) {
            Due.is("proof(" + a + ", 0, 0, 0)", x.proof(a, 0, 0, 0), NO);
            Due.is("proof(" + a + ", 0, -1, 0)", x.proof(a, 0, -1, 0), NO);
        }
    }

    private static void noProofInNoWorld() {
        Due.by("Promise 12: NO: none such, WORLD");
        PaySteer x = between(6);
        for (int world : new int[] {-1, 2, 3, MIN, MAX}) {
            Due.is("proof(1, " + world + ", 0, 0)", x.proof(1, world, 0, 0), NO);
        }
    }

    private static void noProofOfNoWhat() {
        Due.by("Promise 12: NO: none such, what");
        PaySteer x = between(6);
        for (int what : new int[] {-1, 2, MIN, MAX}) {
            Due.is("proof(1, 0, 0, " + what + ")", x.proof(1, 0, 0, what), NO);
            Due.is("proof(1, 0, -1, " + what + ")", x.proof(1, 0, -1, what), NO);
        }
    }

    private static void noProofIfSomePaySteers() {
        Due.by("Promise 12: NO: some PAY STEERS");
        PaySteer x = between(6);
        Due.is("proof(0, 0, 1, 0)", x.proof(0, 0, 1, 0), NO);
        Due.is("proof(2, 0, -1, 0)", x.proof(2, 0, -1, 0), NO);
        Due.is("the only act", withActs(2, 9).proof(0, 0, -1, 0), NO);
    }

    // ---- promise 13

    private static void best() {
        theGreatestIsBest();
        bestOfThoseToWhichSomePaySteers();
        theLeastOfSeveralIsBest();
        bestInNoWorld();
        bestOfNoAct();
    }

    private static void theGreatestIsBest() {
        Due.by("Promise 13: BEST: mean VALUE less MEAN PAY of LEAST PAY for it and that WORLD");
        PaySteer x = twoActs();
        // Act 0 has 3 v twelfths, act 1 has 9 v twelfths less 9.
        x.value(1, 17);
        Due.is("just less", x.best(0), 0);
        x.value(1, 19);
        Due.is("just more", x.best(0), 1);
        Due.is("in world 1 act 0 is cheaper", x.best(1), 0);
        x.value(0, -99);
        x.value(1, -99);
        Due.is("all below 0", x.best(0), 0);
    }

    private static void bestOfThoseToWhichSomePaySteers() {
        Due.by("Promise 13: of those to which some PAY STEERS");
        PaySteer x = between(6);
        x.value(0, -99);
        x.value(1, 10);
        // Act 1 would be better than act 0, but none steers to it; act 2 has 10 less 10.
        Due.is("best(0)", x.best(0), 2);
        x.value(1, -50);
        Due.is("still not act 1", x.best(0), 2);
    }

    private static void theLeastOfSeveralIsBest() {
        Due.by("Promise 13: the least of several");
        PaySteer x = twoActs();
        x.value(1, 18);
        Due.is("4.5 and 4.5", x.best(0), 0);
        PaySteer y = withActs(2, 7, 2, 2, 2);
        Due.is("the least of three", y.best(0), 1);
        Due.is("in world 1", y.best(1), 1);
    }

    private static void bestInNoWorld() {
        Due.by("Promise 13: NONE, no such WORLD");
        PaySteer x = twoActs();
        for (int world : new int[] {-1, 2, MIN, MAX}) {
            Due.is("best(" + world + ")", x.best(world), -1);
        }
    }

    private static void bestOfNoAct() {
        Due.by("Promise 13: NONE: none, too");
        PaySteer x = new PaySteer(0);
        Due.is("best(0)", x.best(0), -1);
        Due.is("best(1)", x.best(1), -1);
        x.act(3);
        Due.is("one act", x.best(0), 0);
        Due.is("one act, world 1", x.best(1), 0);
    }

    // ---- promise 14

    private static void bestGain() {
        bestGainBelow0();
        bestGainIsAFraction();
        noBestGain();
        noBestGainInNoWorld();
        noBestGainOfNoWhat();
    }

    private static void bestGainIs(PaySteer x, int world, long above, long below) {
        Due.isPart("bestGain(" + world + ")", x.bestGain(world, 0), x.bestGain(world, 1), above, below);
    }

    private static void bestGainBelow0() {
        Due.by("Promise 14: below 0, just 0; what is below the line is above 0");
        PaySteer x = withActs(2, 5);
        bestGainIs(x, 0, -5, 1);
        x.value(0, 5);
        bestGainIs(x, 0, 0, 1);
        x.chances(0, 1, 0x93);
        x.value(0, 0);
        x.value(1, -1);
        bestGainIs(x, 1, -23, 4);
    }

    private static void bestGainIsAFraction() {
        Due.by("Promise 14: FRACTIONS without a common divisor");
        PaySteer x = twoActs();
        x.value(1, 40);
        bestGainIs(x, 0, 21, 1);
        x.value(1, 35);
        bestGainIs(x, 0, 69, 4);
        x.value(0, 2);
        bestGainIs(x, 0, 71, 4);
    }

    private static void noBestGain() {
        Due.by("Promise 14: NO, no ACT");
        PaySteer x = new PaySteer(0);
        Due.is("bestGain(0, 0)", x.bestGain(0, 0), NO);
        Due.is("bestGain(1, 1)", x.bestGain(1, 1), NO);
    }

    private static void noBestGainInNoWorld() {
        Due.by("Promise 14: NO, no such WORLD");
        PaySteer x = twoActs();
        for (int world : new int[] {-1, 2, MIN, MAX}) {
            Due.is("bestGain(" + world + ", 0)", x.bestGain(world, 0), NO);
        }
    }

    private static void noBestGainOfNoWhat() {
        Due.by("Promise 14: NO, no such what");
        PaySteer x = twoActs();
        for (int what : new int[] {-1, 2, MIN, MAX}) {
            Due.is("bestGain(0, " + what + ")", x.bestGain(0, what), NO);
        }
    }

    // ---- promise 15

    private static void coarser() {
        allToldAsOne();
        chancesAreAddedUp();
        aDigitThatIsNoSight();
        aDigitBehindTheSights();
        coarserOfNoAct();
        coarserInNoWorld();
        coarserOfNoWhat();
        coarserWhereNoneSteers();
        coarserChangesNothing();
    }

    private static void allToldAsOne() {
        Due.by("Promise 15: each SIGHT as itself, each as another, all as one");
        PaySteer x = twoActs();
        coarserIs(x, 1, 0x10, 9, 1);
        coarserIs(x, 1, 0x01, 9, 1);
        coarserIs(x, 0, 0x00, 0, 1);
        coarserIs(x, 0, 0x11, 0, 1);
        x.reserve(5);
        coarserIs(x, 0, 0x11, 5, 1);
    }

    private static void chancesAreAddedUp() {
        Due.by("Promise 15: all is with CHANCES added up so at SIGHTS m(k)");
        PaySteer x = withActs(4, 0, 6);
        x.chances(0, 0, 0x1335);
        x.chances(1, 0, 0x5421);
        // Apart: sight 3 is paid 18 (4 b is 72), with 5 of 12 a mean of 7.5.
        coarserIs(x, 1, 0x3210, 15, 2);
        // 2 and 3 as one: 9 against 4, so that 5 b is 72.
        coarserIs(x, 1, 0x2210, 54, 5);
        coarserIs(x, 1, 0x3310, 54, 5);
        coarserIs(x, 1, 0x0012, 54, 5);
        // 1, 2 and 3 as one: 11 against 7, so that 4 b is 72.
        coarserIs(x, 1, 0x3330, 33, 2);
        coarserIs(x, 1, 0x1113, 33, 2);
        // 0 and 3 as one: 6 against 6, sight 2 has one more: 72 of 4.
        coarserIs(x, 1, 0x0210, 24, 1);
    }

    private static void aDigitThatIsNoSight() {
        Due.by("Promise 15: NO: a digit of no SIGHT");
        for (int sights = 2; sights <= 4; sights++) {
            PaySteer x = withActs(sights, 0);
            for (int k = 0; k < sights; k++) {
                for (int digit : new int[] {sights - 1, sights, sights + 1, 15}) {
                    int joins = digit << 4 * k;
                    Due.is("of " + sights + ": coarser(0, 0, " + joins + ", 0)", x.coarser(0, 0, joins, 0),
                            digit < sights ? 0 : NO);
                }
            }
        }
    }

    private static void aDigitBehindTheSights() {
        Due.by("Promise 15: NO: a digit of no SIGHT, behind the last one's");
        for (int sights = 2; sights <= 4; sights++) {
            PaySteer x = withActs(sights, 0);
            for (int k = sights; k < 8; k++) {
                int joins = 1 << 4 * k;
                Due.is("of " + sights + ": coarser(0, 0, " + joins + ", 0)", x.coarser(0, 0, joins, 0), NO);
            }
            for (int joins : new int[] {-1, MIN, MAX}) {
                Due.is("of " + sights + ": coarser(0, 0, " + joins + ", 0)", x.coarser(0, 0, joins, 0), NO);
            }
        }
    }

    private static void coarserOfNoAct() {
        Due.by("Promise 15: NO: none such, ACT");
        PaySteer x = twoActs();
        for (int a : new int[] {-1, 2, 3, 4, MIN, MAX}) {
            Due.is("coarser(" + a + ", 0, 0x10, 0)", x.coarser(a, 0, 0x10, 0), NO);
        }
    }

    private static void coarserInNoWorld() {
        Due.by("Promise 15: NO: none such, WORLD");
        PaySteer x = twoActs();
        for (int world : new int[] {-1, 2, 3, MIN, MAX}) {
            Due.is("coarser(0, " + world + ", 0x10, 0)", x.coarser(0, world, 0x10, 0), NO);
        }
        Due.is("coarser(0, 1, 0x10, 0)", x.coarser(0, 1, 0x10, 0), 0);
    }

    private static void coarserOfNoWhat() {
        Due.by("Promise 15: NO: none such, what");
        PaySteer x = twoActs();
        for (int what : new int[] {-1, 2, MIN, MAX}) {
            Due.is("coarser(0, 0, 0x10, " + what + ")", x.coarser(0, 0, 0x10, what), NO);
        }
    }

    private static void coarserWhereNoneSteers() {
        Due.by("Promise 15: NO: none STEERS");
        PaySteer x = twoActs();
        Due.is("apart in world 1", x.coarser(1, 1, 0x10, 0), NO);
        Due.is("all as 0", x.coarser(1, 0, 0x00, 0), NO);
        Due.is("all as 1", x.coarser(1, 0, 0x11, 1), NO);
        x.cost(1, 0);
        coarserIs(x, 1, 0x11, 0, 1);
    }

    private static void coarserChangesNothing() {
        Due.by("Promise 15: what is told stays as fine as it was");
        PaySteer x = twoActs();
        x.coarser(1, 0, 0x11, 0);
        leastIs(x, 1, 1, 1, 12, 1);
        Due.is("steers(1, 1)", x.steers(1, 1), 1);
        Due.is("count(1)", x.count(1), 2);
    }
}
