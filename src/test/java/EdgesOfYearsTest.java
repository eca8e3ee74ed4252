/** Promises 37 to 43: each sentence that names an edge has a test of its own, on objects of its own. */
public final class EdgesOfYearsTest {
    private static final int MIN = Integer.MIN_VALUE;
    private static final int MAX = Integer.MAX_VALUE;
    private static final long NO = Long.MIN_VALUE;

    private EdgesOfYearsTest() {
    }

    public static void main(String[] args) {
        lot();
        year();
        yearOut();
        yearRefused();
        back();
        then();
        account();
        likely();
        suspect();
        Due.end("EdgesOfYearsTest");
    }

    /** One act that costs 2, paid 7 and 5 at sights worth 30 and -20; its chances are a row in world 0. */
    private static PaySteer paid(int row) {
        PaySteer x = new PaySteer(0);
        x.act(2);
        x.chances(0, 0, row);
        x.pay(0, 7);
        x.pay(1, 5);
        x.value(0, 30);
        x.value(1, -20);
        return x;
    }

    /** One act that costs 1 and is paid nothing. */
    private static PaySteer out() {
        PaySteer x = new PaySteer(0);
        x.act(1);
        return x;
    }

    private static void years(PaySteer x, int n) {
        for (int i = 0; i < n; i++) {
            x.year(0);
        }
    }

    // ---- promise 37

    private static void lot() {
        aLotIs0AtLeast();
        aLotIs65536AtMost();
        theLotIs0AtFirst();
        aBadLotChangesNothing();
    }

    private static void aLotIs0AtLeast() {
        Due.by("Promise 37: BAD; LOT from 0 on");
        PaySteer x = new PaySteer(0);
        x.lot(5);
        Due.is("lot(-1)", x.lot(-1), -2);
        Due.is("lot(MIN)", x.lot(MIN), -2);
        Due.is("lot(0)", x.lot(0), 5);
        Due.is("lot(1)", x.lot(1), 0);
    }

    private static void aLotIs65536AtMost() {
        Due.by("Promise 37: BAD; LOT up to 65536");
        PaySteer x = new PaySteer(0);
        Due.is("lot(65537)", x.lot(65537), -2);
        Due.is("lot(MAX)", x.lot(MAX), -2);
        Due.is("lot(65536)", x.lot(65536), 0);
        Due.is("lot(65535)", x.lot(65535), 65536);
    }

    private static void theLotIs0AtFirst() {
        Due.by("Promise 37: 0 at first: what it was");
        PaySteer x = new PaySteer(0);
        Due.is("lot(7)", x.lot(7), 0);
        Due.is("lot(8)", x.lot(8), 7);
        PaySteer y = paid(0x0c);
        y.year(0);
        Due.is("from 0 on it becomes 74", y.lot(0), 74);
    }

    private static void aBadLotChangesNothing() {
        Due.by("Part 7: refusals change nothing: lot");
        PaySteer x = new PaySteer(0);
        x.lot(7);
        x.lot(-1);
        x.lot(65537);
        Due.is("lot(7)", x.lot(7), 7);
    }

    // ---- promise 38

    private static void year() {
        theLotWrapsAround();
        chancesUpToItAreAboveX();
        aSightWithoutAChanceIsPassedOver();
        theSightByTheWorld();
        theSightByTheAnswer();
    }

    private static void theLotWrapsAround() {
        Due.by("Part 6: LOT becomes (75 times itself and 74) modulo 65537");
        PaySteer x = paid(0x0c);
        int[][] told = {{0, 74}, {1, 149}, {872, 65474}, {873, 12}, {65535, 65536 - 75}, {65536, 65536}, {74, 5624}};
        for (int[] t : told) {
            x.lot(t[0]);
            x.year(0);
            Due.is("from " + t[0] + " on", x.lot(0), t[1]);
        }
        x.lot(43690);
        x.year(0);
        Due.is("from 43690 on", x.lot(0), (int) ((43690L * 75 + 74) % 65537));
    }

    private static void chancesUpToItAreAboveX() {
        Due.by("Part 6: the SIGHT is the first one for which CHANCES up to it are above x modulo 12");
        // From 0 on the lot becomes 74, which is 2; then 5624, which is 8.
        for (int first = 0; first <= 12; first++) {
            PaySteer x = paid(first + (12 - first << 4));
            Due.is(first + " above 2", x.year(0), first > 2 ? 0 : 1);
            Due.is(first + " above 8", x.year(0), first > 8 ? 0 : 1);
        }
    }

    private static void aSightWithoutAChanceIsPassedOver() {
        Due.by("Part 6: the first one: a SIGHT without a chance is never seen");
        PaySteer x = new PaySteer(2);
        x.act(0);
        x.chances(0, 0, 0x6060);
        for (int i = 0; i < 20; i++) {
            int sight = x.year(0);
            int lot = x.then(i, 4);
            Due.is("year " + i, sight, lot % 12 < 6 ? 1 : 3);
        }
        x.chances(0, 0, 0x3333);
        for (int i = 20; i < 60; i++) {
            int sight = x.year(0);
            Due.is("year " + i, sight, x.then(i, 4) % 12 / 3);
        }
    }

    private static void theSightByTheWorld() {
        Due.by("Part 6: CHANCES (in that WORLD, of that ACT)");
        PaySteer x = paid(0x0c);
        x.chances(0, 1, 0xc0);
        Due.is("year(0)", x.year(0), 0);
        Due.is("year(1)", x.year(1), 1);
        Due.is("year(0)", x.year(0), 0);
    }

    private static void theSightByTheAnswer() {
        Due.by("Part 6: the hired does THE ANSWER to the PAY that is told");
        PaySteer x = paid(0x0c);
        x.act(2);
        x.chances(1, 0, 0xc0);
        Due.is("the first act is paid more", x.year(0), 0);
        x.pay(1, 8);
        Due.is("the second act is paid more", x.year(0), 1);
        x.pay(1, 7);
        Due.is("alike: better for the one who hires", x.year(0), 0);
        x.value(1, 31);
        Due.is("alike: better for the one who hires", x.year(0), 1);
        x.value(1, 30);
        Due.is("alike: the least number", x.year(0), 0);
    }

    private static void yearOut() {
        justTheReserveIsNotOut();
        theYearGoesByOut();
        theLotBecomesTheNextOneAllTheSame();
    }

    private static void justTheReserveIsNotOut() {
        Due.by("Promise 38: STATE: OUT, if the GAIN of THE ANSWER is below RESERVE");
        PaySteer x = new PaySteer(0);
        x.act(5);
        x.reserve(4);
        x.pay(0, 9);
        Due.is("9 less 5 is 4", x.year(0), 0);
        x.pay(0, 8);
        Due.is("8 less 5 is below 4", x.year(0), -3);
        x.reserve(3);
        Due.is("8 less 5 is 3", x.year(0), 0);
        PaySteer y = new PaySteer(0);
        y.act(0);
        Due.is("0 and 0", y.year(0), 0);
        y.cost(0, 1);
        Due.is("below 0", y.year(0), -3);
        PaySteer z = paid(0x75);
        // 5 times 7 and 7 times 5 is 70, 46 less the cost, which is below 48 and above 36.
        z.reserve(4);
        Due.is("46 twelfths are below 4", z.year(0), -3);
        z.reserve(3);
        Due.that("46 twelfths are not below 3", z.year(0) >= 0);
    }

    private static void theYearGoesByOut() {
        Due.by("Promise 38: STATE (the YEAR goes by)");
        PaySteer x = out();
        Due.is("year(0)", x.year(0), -3);
        Due.is("count(4)", x.count(4), 1);
        Due.is("year(1)", x.year(1), -3);
        Due.is("count(4)", x.count(4), 2);
    }

    private static void theLotBecomesTheNextOneAllTheSame() {
        Due.by("Part 6: OUT: LOT becomes the next one all the same");
        PaySteer x = out();
        x.year(0);
        Due.is("from 0 on", x.lot(74), 74);
        x.year(0);
        Due.is("from 74 on", x.lot(0), 5624);
    }

    private static void yearRefused() {
        yearInNoWorld();
        yearWithoutAnAct();
        yearsAre60AtMost();
        yearsOutAre60AtMost();
        yearNoneAheadOfFull();
        refusedYearsChangeNothing();
    }

    private static void yearInNoWorld() {
        Due.by("Promise 38: NONE: WORLD");
        PaySteer x = paid(0x0c);
        for (int world : new int[] {-1, 2, MIN, MAX}) {
            Due.is("year(" + world + ")", x.year(world), -1);
        }
        Due.is("count(4)", x.count(4), 0);
    }

    private static void yearWithoutAnAct() {
        Due.by("Promise 38: NONE: no ACT");
        PaySteer x = new PaySteer(0);
        Due.is("year(0)", x.year(0), -1);
        Due.is("year(1)", x.year(1), -1);
        Due.is("count(4)", x.count(4), 0);
    }

    private static void yearsAre60AtMost() {
        Due.by("Promise 38: FULL; YEARS go by, 60 at most");
        PaySteer x = paid(0x0c);
        years(x, 59);
        Due.is("the 60th", x.year(0), 0);
        Due.is("count(4)", x.count(4), 60);
        Due.is("the 61st", x.year(0), -4);
        Due.is("then(59, 3)", x.then(59, 3), 0);
        Due.is("then(60, 3)", x.then(60, 3), -1);
        x.back();
        Due.is("the 60th, again", x.year(0), 0);
    }

    private static void yearsOutAre60AtMost() {
        Due.by("Promise 38: FULL, whether the hired was OUT or not");
        PaySteer x = out();
        years(x, 59);
        Due.is("the 60th", x.year(0), -3);
        x.pay(0, 1);
        Due.is("the 61st", x.year(0), -4);
        Due.is("count(4)", x.count(4), 60);
    }

    private static void yearNoneAheadOfFull() {
        Due.by("Part 7: of several the first one told: year, NONE ahead of FULL");
        PaySteer x = paid(0x0c);
        years(x, 60);
        Due.is("year(2)", x.year(2), -1);
        Due.is("year(-1)", x.year(-1), -1);
    }

    private static void refusedYearsChangeNothing() {
        Due.by("Part 7: refusals change nothing: year");
        PaySteer x = paid(0x0c);
        x.year(2);
        x.year(-1);
        Due.is("count(4)", x.count(4), 0);
        Due.is("lot(0)", x.lot(0), 0);
        years(x, 60);
        x.lot(9);
        x.year(0);
        Due.is("count(4)", x.count(4), 60);
        Due.is("lot(9)", x.lot(9), 9);
        Due.is("account(1)", x.account(1), 420);
        PaySteer y = new PaySteer(0);
        y.lot(5);
        y.year(0);
        Due.is("no act: lot(5)", y.lot(5), 5);
    }

    // ---- promise 39

    private static void back() {
        howManyWentByThen();
        noneWentBy();
        theLotIsAsRightAheadOfIt();
        aYearOutIsTakenBack();
        accountsAreTakenBack();
    }

    private static void howManyWentByThen() {
        Due.by("Promise 39: the latest YEAR is taken back: how many went by then");
        PaySteer x = paid(0x0c);
        years(x, 3);
        for (int left = 2; left >= 0; left--) {
            Due.is("back()", x.back(), left);
            Due.is("count(4)", x.count(4), left);
            Due.is("then(" + left + ", 0)", x.then(left, 0), -1);
        }
    }

    private static void noneWentBy() {
        Due.by("Promise 39: NONE: none did");
        PaySteer x = paid(0x0c);
        x.lot(9);
        Due.is("back()", x.back(), -1);
        Due.is("lot(9)", x.lot(9), 9);
        x.year(0);
        Due.is("back()", x.back(), 0);
        Due.is("back()", x.back(), -1);
        Due.is("count(4)", x.count(4), 0);
    }

    private static void theLotIsAsRightAheadOfIt() {
        Due.by("Promise 39: LOT is as it was right ahead of it");
        PaySteer x = paid(0x0c);
        x.lot(5);
        x.year(0);
        x.lot(9);
        x.year(0);
        x.lot(33);
        x.back();
        Due.is("told between the years", x.lot(44), 9);
        x.back();
        Due.is("told ahead of the first one", x.lot(0), 5);
        x.lot(0);
        x.year(0);
        x.year(0);
        x.back();
        Due.is("what it had become", x.lot(0), 74);
    }

    private static void aYearOutIsTakenBack() {
        Due.by("Promise 39: a YEAR in which the hired was OUT is taken back, too");
        PaySteer x = out();
        x.lot(5);
        x.year(0);
        Due.is("back()", x.back(), 0);
        Due.is("lot(5)", x.lot(5), 5);
        Due.is("then(0, 3)", x.then(0, 3), -1);
        x.pay(0, 9);
        Due.is("another first year", x.year(0), 0);
        Due.is("then(0, 3)", x.then(0, 3), 0);
    }

    private static void accountsAreTakenBack() {
        Due.by("Promise 39: what was had and paid is taken back");
        PaySteer x = paid(0x0c);
        years(x, 2);
        Due.is("account(0)", x.account(0), 46);
        Due.is("account(1)", x.account(1), 14);
        x.back();
        Due.is("account(0)", x.account(0), 23);
        Due.is("account(1)", x.account(1), 7);
        x.back();
        Due.is("account(0)", x.account(0), 0);
        Due.is("account(1)", x.account(1), 0);
    }

    // ---- promise 40

    private static void then() {
        yearsAreNumberedFrom0();
        whatIsToldOfAYear();
        whatIsToldOfAYearOut();
        whatOfAYearIs0To4();
        aYearIsAsItWas();
    }

    private static void yearsAreNumberedFrom0() {
        Due.by("Promise 40: of YEAR y (from 0 on); NONE");
        PaySteer x = paid(0x0c);
        Due.is("no year", x.then(0, 0), -1);
        years(x, 2);
        Due.is("then(0, 0)", x.then(0, 0), 0);
        Due.is("then(1, 0)", x.then(1, 0), 0);
        for (int y : new int[] {-1, 2, 59, 60, MIN, MAX}) {
            Due.is("then(" + y + ", 0)", x.then(y, 0), -1);
        }
    }

    private static void thenIs(PaySteer x, int y, int... due) {
        for (int what = 0; what <= 4; what++) {
            Due.is("then(" + y + ", " + what + ")", x.then(y, what), due[what]);
        }
    }

    private static void whatIsToldOfAYear() {
        Due.by("Promise 40: 0 the ACT, 1 the SIGHT, 2 what was paid, 3 whether it was OUT, 4 the x");
        PaySteer x = paid(0x66);
        x.act(9);
        years(x, 2);
        thenIs(x, 0, 0, 0, 7, 0, 74);
        thenIs(x, 1, 0, 1, 5, 0, 5624);
        x.cost(1, 0);
        x.year(0);
        thenIs(x, 2, 1, 0, 7, 0, 28652);
    }

    private static void whatIsToldOfAYearOut() {
        Due.by("Promise 40: the SIGHT (NONE: OUT); nothing is paid, THE ANSWER is told as the ACT");
        PaySteer x = paid(0x66);
        x.act(0);
        x.reserve(99);
        x.year(0);
        thenIs(x, 0, 1, -1, 0, 1, 74);
        x.cost(0, 0);
        x.cost(1, 9);
        x.year(0);
        thenIs(x, 1, 0, -1, 0, 1, 5624);
    }

    private static void whatOfAYearIs0To4() {
        Due.by("Promise 40: NONE, what");
        PaySteer x = paid(0x66);
        x.year(0);
        Due.is("then(0, 4)", x.then(0, 4), 74);
        for (int what : new int[] {-1, 5, MIN, MAX}) {
            Due.is("then(0, " + what + ")", x.then(0, what), -1);
        }
    }

    private static void aYearIsAsItWas() {
        Due.by("Promise 40: what was, whatever is told later");
        PaySteer x = paid(0x66);
        x.year(0);
        x.pay(0, 100);
        x.reserve(99);
        x.cost(0, 99);
        x.chances(0, 0, 0xc0);
        x.lot(1);
        thenIs(x, 0, 0, 0, 7, 0, 74);
    }

    // ---- promise 41

    private static void account() {
        accountsAre0AtFirst();
        valuesAsTheyWere();
        nothingIsHadOut();
        accountsAre0And1();
        theGreatestAccounts();
    }

    private static void accountsAre0AtFirst() {
        Due.by("Promise 41: no YEAR: nothing paid, nothing had");
        PaySteer x = paid(0x0c);
        Due.is("account(0)", x.account(0), 0);
        Due.is("account(1)", x.account(1), 0);
    }

    private static void valuesAsTheyWere() {
        Due.by("Promise 41: 0 VALUES (as they were) less what was paid, 1 what was paid");
        PaySteer x = paid(0x66);
        x.year(0);
        x.value(0, 99);
        x.pay(0, 500);
        Due.is("account(0)", x.account(0), 23);
        Due.is("account(1)", x.account(1), 7);
        x.year(0);
        Due.is("account(0)", x.account(0), 23 - 25);
        Due.is("account(1)", x.account(1), 12);
    }

    private static void nothingIsHadOut() {
        Due.by("Promise 41: OUT: nothing is seen, paid, had");
        PaySteer x = paid(0x0c);
        x.year(0);
        x.reserve(99);
        Due.is("out", x.year(0), -3);
        Due.is("account(0)", x.account(0), 23);
        Due.is("account(1)", x.account(1), 7);
    }

    private static void accountsAre0And1() {
        Due.by("Promise 41: NO");
        PaySteer x = paid(0x0c);
        for (int whose : new int[] {-1, 2, MIN, MAX}) {
            Due.is("account(" + whose + ")", x.account(whose), NO);
        }
    }

    private static void theGreatestAccounts() {
        Due.by("Promise 41: 60 YEARS of the greatest PAY and the least VALUE");
        PaySteer x = new PaySteer(0);
        x.act(0);
        x.pay(0, 999);
        x.value(0, -99);
        years(x, 60);
        Due.is("account(0)", x.account(0), -65880);
        Due.is("account(1)", x.account(1), 59940);
    }

    // ---- promise 42

    private static void likely() {
        theProductOfChances();
        thoseThatWereOutAreNotSeen();
        aChanceOf0();
        nIs1To16();
        nIsNotAboveHowManyWentBy();
        likelyOfNoAct();
        likelyInNoWorld();
    }

    /** Sights 0, 1, 1 were seen; act 1 is never done, and has other chances. */
    private static PaySteer seen() {
        PaySteer x = paid(0x66);
        x.act(99);
        x.chances(1, 0, 0x84);
        x.chances(1, 1, 0x57);
        years(x, 3);
        return x;
    }

    private static void theProductOfChances() {
        Due.by("Promise 42: by the latest n YEARS: the product of its CHANCES at the SIGHTS that were seen");
        PaySteer x = seen();
        Due.is("likely(1, 0, 1)", x.likely(1, 0, 1), 8);
        Due.is("likely(1, 0, 2)", x.likely(1, 0, 2), 64);
        Due.is("likely(1, 0, 3)", x.likely(1, 0, 3), 256);
        Due.is("likely(0, 0, 3)", x.likely(0, 0, 3), 216);
        Due.is("likely(1, 1, 3)", x.likely(1, 1, 3), 7 * 25);
        Due.is("likely(0, 1, 3)", x.likely(0, 1, 3), 0);
    }

    private static void thoseThatWereOutAreNotSeen() {
        Due.by("Promise 42: the SIGHTS that were seen in these (not OUT)");
        PaySteer x = seen();
        x.reserve(99);
        x.year(0);
        Due.is("out alone", x.likely(1, 0, 1), 1);
        Due.is("one of two", x.likely(1, 0, 2), 8);
        Due.is("three of four", x.likely(1, 0, 4), 256);
    }

    private static void aChanceOf0() {
        Due.by("Promise 42: a SIGHT that an ACT has no chance of");
        PaySteer x = seen();
        x.chances(1, 0, 0x0c);
        Due.is("likely(1, 0, 1)", x.likely(1, 0, 1), 0);
        Due.is("likely(1, 0, 3)", x.likely(1, 0, 3), 0);
    }

    private static void nIs1To16() {
        Due.by("Promise 42: NO: n not 1 .. 16");
        PaySteer x = paid(0x0c);
        years(x, 20);
        Due.is("likely(0, 0, 1)", x.likely(0, 0, 1), 12);
        Due.is("likely(0, 0, 16)", x.likely(0, 0, 16), 184884258895036416L);
        for (int n : new int[] {0, -1, 17, 20, MIN, MAX}) {
            Due.is("likely(0, 0, " + n + ")", x.likely(0, 0, n), NO);
            Due.is("suspect(0, " + n + ")", x.suspect(0, n), -1);
        }
    }

    private static void nIsNotAboveHowManyWentBy() {
        Due.by("Promise 42: NO: above how many went by");
        PaySteer x = paid(0x0c);
        Due.is("none went by", x.likely(0, 0, 1), NO);
        x.year(0);
        Due.is("1 of 1", x.likely(0, 0, 1), 12);
        Due.is("2 of 1", x.likely(0, 0, 2), NO);
        x.year(0);
        Due.is("2 of 2", x.likely(0, 0, 2), 144);
        Due.is("3 of 2", x.likely(0, 0, 3), NO);
        x.back();
        Due.is("2 of 1, again", x.likely(0, 0, 2), NO);
    }

    private static void likelyOfNoAct() {
        Due.by("Promise 42: NO: none such, ACT");
        PaySteer x = seen();
        for (int a : new int[] {-1, 2, 3, 4, MIN, MAX}) {
            Due.is("likely(" + a + ", 0, 1)", x.likely(a, 0, 1), NO);
        }
    }

    private static void likelyInNoWorld() {
        Due.by("Promise 42: NO: none such, WORLD");
        PaySteer x = seen();
        for (int world : new int[] {-1, 2, MIN, MAX}) {
            Due.is("likely(0, " + world + ", 1)", x.likely(0, world, 1), NO);
        }
    }

    // ---- promise 43

    private static void suspect() {
        theMostLikelyAct();
        theLeastOfSeveralSuspects();
        suspectAllAre0();
        suspectInNoWorld();
        suspectOfTooManyYears();
        suspectOfNoAct();
    }

    private static void theMostLikelyAct() {
        Due.by("Promise 43: the ACT that is most LIKELY");
        PaySteer x = seen();
        Due.is("216 against 256", x.suspect(0, 3), 1);
        Due.is("0 against 175", x.suspect(1, 3), 1);
        x.chances(1, 0, 0x93);
        Due.is("216 against 243", x.suspect(0, 3), 1);
        x.chances(1, 0, 0xa2);
        Due.is("216 against 200", x.suspect(0, 3), 0);
        Due.is("6 against 10", x.suspect(0, 1), 1);
    }

    private static void theLeastOfSeveralSuspects() {
        Due.by("Promise 43: of several the least");
        PaySteer x = seen();
        x.act(99);
        x.chances(2, 0, 0x84);
        Due.is("256 and 256", x.suspect(0, 3), 1);
        x.chances(0, 0, 0x84);
        Due.is("three times 256", x.suspect(0, 3), 0);
    }

    private static void suspectAllAre0() {
        Due.by("Promise 43: all are 0: the least");
        PaySteer x = seen();
        x.chances(0, 0, 0x0c);
        x.chances(1, 0, 0x0c);
        Due.is("suspect(0, 1)", x.suspect(0, 1), 0);
        x.reserve(99);
        x.year(0);
        Due.is("nothing was seen", x.suspect(0, 1), 0);
    }

    private static void suspectInNoWorld() {
        Due.by("Promise 43: NONE likewise: WORLD");
        PaySteer x = seen();
        for (int world : new int[] {-1, 2, MIN, MAX}) {
            Due.is("suspect(" + world + ", 1)", x.suspect(world, 1), -1);
        }
    }

    private static void suspectOfTooManyYears() {
        Due.by("Promise 43: NONE likewise: n not 1 .. 16, above how many went by");
        PaySteer x = seen();
        Due.is("suspect(0, 3)", x.suspect(0, 3), 1);
        for (int n : new int[] {0, -1, 4, 16, 17, MIN, MAX}) {
            Due.is("suspect(0, " + n + ")", x.suspect(0, n), -1);
        }
        years(x, 17);
        Due.that("suspect(0, 16)", x.suspect(0, 16) >= 0);
        Due.is("suspect(0, 17)", x.suspect(0, 17), -1);
    }

    private static void suspectOfNoAct() {
        Due.by("Promise 43: NONE likewise: no ACT");
        Due.is("suspect(0, 1)", new PaySteer(0).suspect(0, 1), -1);
    }
}
