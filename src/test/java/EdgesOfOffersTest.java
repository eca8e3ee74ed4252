/** Promises 16 to 22: each sentence that names an edge has a test of its own, on objects of its own. */
public final class EdgesOfOffersTest {
    private static final int MIN = Integer.MIN_VALUE;
    private static final int MAX = Integer.MAX_VALUE;
    private static final long NO = Long.MIN_VALUE;

    private EdgesOfOffersTest() {
    }

    public static void main(String[] args) {
        work();
        menu();
        menuRefused();
        may();
        terms();
        promise();
        promiseRefused();
        first();
        start();
        Due.end("EdgesOfOffersTest");
    }

    /** What work 1, 2, .. is worth. */
    private static PaySteer worth(int... values) {
        PaySteer x = new PaySteer(0);
        for (int q = 1; q <= values.length; q++) {
            x.work(q, values[q - 1]);
        }
        return x;
    }

    private static PaySteer withTerms(int c0, int c1, int p0, int p1, int v) {
        PaySteer x = new PaySteer(0);
        x.terms(c0, c1, p0, p1, v);
        return x;
    }

    // ---- promise 16

    private static void work() {
        workIs1To9();
        workIsWorth0AtLeast();
        workIsWorth9999AtMost();
        workIsWorth0AtFirst();
        workNoneAheadOfBad();
        refusedWorkChangesNothing();
    }

    private static void workIs1To9() {
        Due.by("Promise 16: NONE; work q, 1 .. 9");
        PaySteer x = new PaySteer(0);
        Due.is("work(1, 5)", x.work(1, 5), 0);
        Due.is("work(9, 6)", x.work(9, 6), 0);
        for (int q : new int[] {0, -1, 10, 11, MIN, MAX}) {
            Due.is("work(" + q + ", 5)", x.work(q, 5), -1);
        }
    }

    private static void workIsWorth0AtLeast() {
        Due.by("Promise 16: BAD; VALUE from 0 on");
        PaySteer x = worth(7);
        Due.is("work(1, -1)", x.work(1, -1), -2);
        Due.is("work(1, MIN)", x.work(1, MIN), -2);
        Due.is("work(1, 0)", x.work(1, 0), 7);
        Due.is("work(1, 1)", x.work(1, 1), 0);
    }

    private static void workIsWorth9999AtMost() {
        Due.by("Promise 16: BAD; VALUE up to 9999");
        PaySteer x = worth(7);
        Due.is("work(1, 10000)", x.work(1, 10000), -2);
        Due.is("work(1, MAX)", x.work(1, MAX), -2);
        Due.is("work(1, 9999)", x.work(1, 9999), 7);
        Due.is("work(1, 1)", x.work(1, 1), 9999);
    }

    private static void workIsWorth0AtFirst() {
        Due.by("Promise 16: 0 at first: what it was");
        PaySteer x = new PaySteer(0);
        for (int q = 1; q <= 9; q++) {
            Due.is("work(" + q + ", 5)", x.work(q, 5 + q), 0);
        }
        for (int q = 1; q <= 9; q++) {
            Due.is("work(" + q + ", 0)", x.work(q, 0), 5 + q);
        }
    }

    private static void workNoneAheadOfBad() {
        Due.by("Part 7: of several the first one told: work, NONE ahead of BAD");
        PaySteer x = new PaySteer(0);
        Due.is("work(0, -1)", x.work(0, -1), -1);
        Due.is("work(10, 10000)", x.work(10, 10000), -1);
    }

    private static void refusedWorkChangesNothing() {
        Due.by("Part 7: refusals change nothing: work");
        PaySteer x = worth(7, 8);
        x.work(1, 10000);
        x.work(2, -1);
        x.work(0, 500);
        x.work(10, 500);
        Due.is("work(1, 7)", x.work(1, 7), 7);
        Due.is("work(2, 8)", x.work(2, 8), 8);
        Due.is("the work that is none is worth 0", x.menu(1, 2, 1, 2, 5), 10);
    }

    // ---- promise 17

    private static void menu() {
        theMenuOfNothing();
        kind0IsLeftJustWhatTheOtherOneLeavesIt();
        heedsHowManyThereAre();
        ofSeveralTheLeastWorkOfKind0();
        ofTheseTheLeastWorkOfKind1();
        bunchesIfBothAreOne();
        theDearestMenu();
    }

    private static void menuIs(PaySteer x, int rate0, int rate1, int m, int n, int... due) {
        for (int what = 0; what <= 5; what++) {
            String call = "menu(" + rate0 + ", " + rate1 + ", " + m + ", " + n + ", " + what + ")";
            Due.is(call, x.menu(rate0, rate1, m, n, what), due[what]);
        }
    }

    private static void theMenuOfNothing() {
        Due.by("Promise 17: v(0) 0: nothing is worth it");
        menuIs(new PaySteer(0), 1, 2, 1, 2, 0, 0, 0, 0, 1, 0);
        menuIs(worth(1), 2, 3, 1, 2, 0, 0, 0, 0, 1, 0);
    }

    private static void kind0IsLeftJustWhatTheOtherOneLeavesIt() {
        Due.by("Promise 17: must not rather have the other one's (it may be alike), nor nothing (0)");
        PaySteer x = worth(30, 56, 78, 96, 110);
        // Kind 1 has 20 for what costs it 20, and what costs kind 0 12: so that kind 0 has 27 and 8.
        menuIs(x, 3, 5, 1, 2, 3, 35, 2, 20, 0, 79);
        // Kind 1 is asked for nothing: kind 0 has just what its work costs it.
        menuIs(x, 3, 20, 1, 9, 3, 27, 0, 0, 0, 408);
    }

    private static void heedsHowManyThereAre() {
        Due.by("Promise 17: by how many of a KIND there are: n - m of KIND 0, m of KIND 1");
        PaySteer x = worth(25);
        // 24 of each of kind 0 alone, or 5 of each of all.
        menuIs(x, 1, 20, 1, 20, 1, 1, 0, 0, 0, 456);
        menuIs(x, 1, 20, 19, 20, 1, 20, 1, 20, 1, 100);
        menuIs(x, 1, 20, 15, 19, 1, 1, 0, 0, 0, 96);
        menuIs(x, 1, 20, 16, 20, 1, 20, 1, 20, 1, 100);
    }

    private static void ofSeveralTheLeastWorkOfKind0() {
        Due.by("Promise 17: of several the least q of KIND 0");
        menuIs(worth(1), 1, 20, 1, 2, 0, 0, 0, 0, 1, 0);
        menuIs(worth(9, 12), 1, 20, 1, 2, 1, 1, 0, 0, 0, 8);
        menuIs(worth(9, 13), 1, 20, 1, 2, 2, 4, 0, 0, 0, 9);
        menuIs(worth(0, 0, 0, 0, 0, 0, 0, 0, 162), 2, 20, 1, 2, 0, 0, 0, 0, 1, 0);
        menuIs(worth(0, 0, 0, 0, 0, 0, 0, 0, 163), 2, 20, 1, 2, 9, 162, 0, 0, 0, 1);
    }

    private static void ofTheseTheLeastWorkOfKind1() {
        Due.by("Promise 17: then q of KIND 1");
        // Work 1 of kind 1 is worth 3, costs 2, and leaves kind 0 1 more.
        menuIs(worth(3), 1, 2, 1, 2, 1, 1, 0, 0, 0, 2);
        menuIs(worth(4), 1, 2, 1, 2, 1, 2, 1, 2, 1, 4);
        // From 1 to 2 kind 1's is worth 9 more, and asks for 6 and 3 more.
        menuIs(worth(10, 19), 1, 2, 1, 2, 2, 5, 1, 2, 0, 22);
        menuIs(worth(10, 20), 1, 2, 1, 2, 2, 8, 2, 8, 1, 24);
    }

    private static void bunchesIfBothAreOne() {
        Due.by("Promise 17: it BUNCHES, if both q are one");
        PaySteer x = worth(30, 56, 78, 96, 110);
        Due.is("q 3 and 2", x.menu(3, 5, 1, 2, 4), 0);
        Due.is("q 3 and 3", x.menu(3, 4, 9, 10, 4), 1);
        Due.is("q of kind 0", x.menu(3, 4, 9, 10, 0), 3);
        Due.is("q of kind 1", x.menu(3, 4, 9, 10, 2), 3);
        Due.is("q 1 and 0", worth(3).menu(1, 2, 1, 2, 4), 0);
        Due.is("q 0 and 0", worth().menu(1, 2, 1, 2, 4), 1);
    }

    private static void theDearestMenu() {
        Due.by("Part 3: q up to 9, rates up to 20, n up to 20");
        PaySteer x = worth(0, 0, 0, 0, 0, 0, 0, 0, 9999);
        menuIs(x, 19, 20, 19, 20, 9, 1620, 9, 1620, 1, 20 * 8379);
        menuIs(x, 1, 20, 1, 20, 9, 81, 0, 0, 0, 19 * 9918);
        x.work(9, 1620);
        menuIs(x, 19, 20, 19, 20, 9, 1539, 0, 0, 0, 81);
    }

    private static void menuRefused() {
        menuWhatIs0To5();
        rateOfKind0IsFrom1();
        rateOfKind1IsUpTo20();
        rateOfKind1IsGreater();
        someAreOfKind1();
        notAllAreOfKind1();
        nIsUpTo20();
        menuNoneAheadOfBad();
    }

    private static void menuWhatIs0To5() {
        Due.by("Promise 17: NONE: what");
        PaySteer x = worth(3);
        Due.is("what 0", x.menu(1, 2, 1, 2, 0), 1);
        Due.is("what 5", x.menu(1, 2, 1, 2, 5), 2);
        for (int what : new int[] {-1, 6, MIN, MAX}) {
            Due.is("what " + what, x.menu(1, 2, 1, 2, what), -1);
        }
    }

    private static void rateOfKind0IsFrom1() {
        Due.by("Promise 17: BAD: rates; KIND 0 from 1 on");
        PaySteer x = worth(3);
        Due.is("rate 1", x.menu(1, 2, 1, 2, 5), 2);
        for (int rate : new int[] {0, -1, MIN}) {
            Due.is("rate " + rate, x.menu(rate, 2, 1, 2, 5), -2);
            Due.is("may, rate " + rate, x.may(rate, 2, 0, 0, 0, 0), -2);
        }
    }

    private static void rateOfKind1IsUpTo20() {
        Due.by("Promise 17: BAD: rates; KIND 1, 20 at most");
        PaySteer x = worth(3);
        Due.is("rate 20", x.menu(1, 20, 1, 2, 5), 2);
        for (int rate : new int[] {21, MAX}) {
            Due.is("rate " + rate, x.menu(1, rate, 1, 2, 5), -2);
            Due.is("may, rate " + rate, x.may(1, rate, 0, 0, 0, 0), -2);
        }
        Due.is("both", x.menu(20, 21, 1, 2, 5), -2);
    }

    private static void rateOfKind1IsGreater() {
        Due.by("Promise 17: BAD: rates; KIND 1 one that is greater");
        PaySteer x = worth(3);
        for (int rate = 1; rate <= 20; rate++) {
            Due.is("alike, " + rate, x.menu(rate, rate, 1, 2, 5), -2);
            Due.is("may, alike, " + rate, x.may(rate, rate, 0, 0, 0, 0), -2);
            Due.is("less, " + rate, x.menu(rate, rate - 1, 1, 2, 5), -2);
        }
        Due.is("19 and 20", x.menu(19, 20, 1, 2, 5), 0);
    }

    private static void someAreOfKind1() {
        Due.by("Promise 17: BAD: m; 0 < m");
        PaySteer x = worth(3);
        Due.is("1 of 20", x.menu(1, 2, 1, 20, 5), 38);
        for (int m : new int[] {0, -1, MIN}) {
            Due.is(m + " of 20", x.menu(1, 2, m, 20, 5), -2);
        }
    }

    private static void notAllAreOfKind1() {
        Due.by("Promise 17: BAD: m, n; m < n, n from 2 on");
        PaySteer x = worth(3);
        Due.is("1 of 2", x.menu(1, 2, 1, 2, 5), 2);
        Due.is("19 of 20", x.menu(1, 2, 19, 20, 5), 20);
        int[][] bad = {{2, 2}, {3, 2}, {20, 20}, {1, 1}, {0, 1}, {0, 0}, {1, 0}, {1, -1}, {MIN, MIN}, {-2, -1}};
        for (int[] b : bad) {
            Due.is(b[0] + " of " + b[1], x.menu(1, 2, b[0], b[1], 5), -2);
        }
    }

    private static void nIsUpTo20() {
        Due.by("Promise 17: BAD: n; n up to 20");
        PaySteer x = worth(3);
        Due.is("10 of 20", x.menu(1, 2, 10, 20, 5), 20);
        for (int n : new int[] {21, 22, MAX}) {
            Due.is("10 of " + n, x.menu(1, 2, 10, n, 5), -2);
        }
    }

    private static void menuNoneAheadOfBad() {
        Due.by("Part 7: of several the first one told: menu, NONE ahead of BAD");
        PaySteer x = worth(3);
        Due.is("rates", x.menu(2, 2, 1, 2, 6), -1);
        Due.is("m", x.menu(1, 2, 0, 2, -1), -1);
        Due.is("n", x.menu(1, 2, 1, 21, 6), -1);
    }

    // ---- promise 18

    private static void may() {
        theOtherOnesMayBeAlike();
        nothingMayBeAlike();
        workOfAMenuIs0To9();
        payOfAMenuIs0To9999();
    }

    private static void theOtherOnesMayBeAlike() {
        Due.by("Promise 18: must not rather have the other one's (it may be alike)");
        PaySteer x = new PaySteer(0);
        Due.is("kind 0 has 8 and could have 8", x.may(3, 5, 3, 35, 2, 20), 1);
        Due.is("kind 0 has 7 and could have 8", x.may(3, 5, 3, 34, 2, 20), 0);
        Due.is("kind 1 has 0 and could have 0", x.may(3, 5, 3, 45, 2, 20), 1);
        Due.is("kind 1 has 0 and could have 1", x.may(3, 5, 3, 46, 2, 20), 0);
        Due.is("both the same", x.may(3, 5, 3, 45, 3, 45), 1);
        Due.is("kind 0 one less for the same", x.may(3, 5, 3, 45, 3, 46), 0);
        Due.is("kind 1 one less for the same", x.may(3, 5, 3, 46, 3, 45), 0);
        Due.is("more work for kind 1", x.may(3, 5, 2, 20, 3, 45), 0);
    }

    private static void nothingMayBeAlike() {
        Due.by("Promise 18: nor nothing (0)");
        PaySteer x = new PaySteer(0);
        Due.is("nothing for nothing", x.may(1, 2, 0, 0, 0, 0), 1);
        Due.is("kind 0 has just 0", x.may(3, 5, 3, 27, 0, 0), 1);
        Due.is("kind 0 has less", x.may(3, 5, 3, 26, 0, 0), 0);
        Due.is("kind 1 has just 0", x.may(3, 5, 2, 20, 2, 20), 1);
        Due.is("kind 1 has less", x.may(3, 5, 2, 19, 2, 19), 0);
        Due.is("pay for nothing", x.may(3, 5, 0, 4, 0, 4), 1);
    }

    private static void workOfAMenuIs0To9() {
        Due.by("Promise 18: BAD: q (0 .. 9)");
        PaySteer x = new PaySteer(0);
        Due.is("9 and 9", x.may(19, 20, 9, 1620, 9, 1620), 1);
        for (int q : new int[] {-1, 10, MIN, MAX}) {
            Due.is("q of kind 0 " + q, x.may(1, 2, q, 9999, 0, 9999), -2);
            Due.is("q of kind 1 " + q, x.may(1, 2, 0, 9999, q, 9999), -2);
        }
    }

    private static void payOfAMenuIs0To9999() {
        Due.by("Promise 18: BAD: PAY (0 .. 9999)");
        PaySteer x = new PaySteer(0);
        Due.is("9999 and 9999", x.may(1, 2, 0, 9999, 0, 9999), 1);
        Due.is("0 and 9999", x.may(1, 2, 0, 0, 9, 9999), 0);
        for (int pay : new int[] {-1, 10000, MIN, MAX}) {
            Due.is("PAY of kind 0 " + pay, x.may(1, 2, 0, pay, 0, 0), -2);
            Due.is("PAY of kind 1 " + pay, x.may(1, 2, 0, 0, 0, pay), -2);
        }
    }

    // ---- promise 19

    private static void terms() {
        termsAtFirst();
        costsAre0To12();
        chancesAre0To12();
        aGoodSightIsWorth0To99();
        refusedTermsChangeNothing();
    }

    private static void termsAtFirst() {
        Due.by("Promise 19: at first 0, 3, 3, 9, 10");
        PaySteer x = new PaySteer(0);
        PaySteer y = new PaySteer(0);
        Due.is("terms(0, 3, 3, 9, 10)", y.terms(0, 3, 3, 9, 10), 0);
        for (int t = 1; t <= 6; t++) {
            for (int w = 0; w <= 12; w++) {
                Due.is("promise(" + t + ", " + w + ")", x.promise(t, w), y.promise(t, w));
            }
        }
        Due.is("promise(1, 0)", x.promise(1, 0), 30);
        Due.is("promise(3, 4)", x.promise(3, 4), 9504);
    }

    private static void costsAre0To12() {
        Due.by("Promise 19: BAD: costs (0 .. 12)");
        PaySteer x = new PaySteer(0);
        Due.is("12 and 0", x.terms(12, 0, 0, 0, 0), 0);
        Due.is("0 and 12", x.terms(0, 12, 0, 0, 0), 0);
        for (int cost : new int[] {-1, 13, MIN, MAX}) {
            Due.is("c0 " + cost, x.terms(cost, 0, 0, 0, 0), -2);
            Due.is("c1 " + cost, x.terms(0, cost, 0, 0, 0), -2);
        }
    }

    private static void chancesAre0To12() {
        Due.by("Promise 19: BAD: chances (0 .. 12)");
        PaySteer x = new PaySteer(0);
        Due.is("12 and 0", x.terms(0, 0, 12, 0, 1), 0);
        Due.is("promise(1, 0)", x.promise(1, 0), 12);
        Due.is("0 and 12", x.terms(0, 0, 0, 12, 2), 0);
        Due.is("promise(1, 0)", x.promise(1, 0), 24);
        for (int chance : new int[] {-1, 13, MIN, MAX}) {
            Due.is("p0 " + chance, x.terms(0, 0, chance, 0, 0), -2);
            Due.is("p1 " + chance, x.terms(0, 0, 0, chance, 0), -2);
        }
    }

    private static void aGoodSightIsWorth0To99() {
        Due.by("Promise 19: BAD: what a good sight is worth (0 .. 99)");
        PaySteer x = new PaySteer(0);
        Due.is("0", x.terms(0, 0, 12, 12, 0), 0);
        Due.is("promise(1, 0)", x.promise(1, 0), 0);
        Due.is("99", x.terms(0, 0, 12, 12, 99), 0);
        Due.is("promise(1, 0)", x.promise(1, 0), 1188);
        for (int v : new int[] {-1, 100, MIN, MAX}) {
            Due.is("v " + v, x.terms(0, 0, 0, 0, v), -2);
        }
    }

    private static void refusedTermsChangeNothing() {
        Due.by("Part 7: refusals change nothing: terms");
        PaySteer x = withTerms(1, 2, 3, 4, 50);
        long before = x.promise(2, 0);
        x.terms(13, 3, 4, 5, 60);
        x.terms(3, -1, 4, 5, 60);
        x.terms(3, 3, 13, 5, 60);
        x.terms(3, 3, 4, -1, 60);
        x.terms(3, 3, 4, 5, 100);
        Due.is("promise(1, 0)", x.promise(1, 0), 138);
        Due.is("promise(2, 0)", x.promise(2, 0), before);
        Due.is("promise(2, 0)", x.promise(2, 0), 138 * 24);
    }

    // ---- promise 20

    private static void promise() {
        paidAheadIs6AtMost();
        paidAheadIs0AtLeast();
        itIsJustThePromised();
        theOtherActMayBeAlike();
        noActThatIsWorseIsDone();
        behindTheLastOneOnly0IsPromised();
        justWhatCanBeKeptIsPromised();
        aSumIsTimes12ToThePowerT();
    }

    private static void paidAheadIs6AtMost() {
        Due.by("Part 4: paid a (0 .. 6): 6 at most");
        PaySteer x = withTerms(0, 0, 6, 6, 10);
        Due.is("promise(1, 6)", x.promise(1, 6), 60 - 72);
        Due.is("promise(1, 7)", x.promise(1, 7), NO);
        x.terms(6, 6, 6, 6, 10);
        Due.is("a cost of 6 can be paid", x.promise(1, 0), 60 - 72);
        Due.is("a cost of 6, and 1", x.promise(1, 1), NO);
        x.terms(7, 7, 6, 6, 10);
        Due.is("a cost of 7 can't", x.promise(1, 0), NO);
    }

    private static void paidAheadIs0AtLeast() {
        Due.by("Part 4: paid a (0 .. 6): 0 at least");
        PaySteer x = withTerms(0, 3, 3, 9, 99);
        // Act 1 with 8 and 0 leaves 3, which could just be taken back by a below 0.
        Due.is("promise(3, 0)", x.promise(3, 0), 1296 * 99);
        Due.is("promise(3, 3)", x.promise(3, 3), 2160 * 99 - 10368);
    }

    private static void itIsJustThePromised() {
        Due.by("Part 4: it must be just the promised w");
        PaySteer x = withTerms(0, 3, 3, 9, 99);
        // Act 1 asks for 6 and 0, which is 4.5: with a of 0, 1 that is 1.5, 2.5.
        Due.is("promise(2, 1)", x.promise(2, 1), 7128 - 144);
        Due.is("promise(2, 2)", x.promise(2, 2), 7128 - 288);
        Due.is("promise(2, 3)", x.promise(2, 3), 7128 - 432);
    }

    private static void theOtherActMayBeAlike() {
        Due.by("Part 4: the ACT that is done must be no worse than the other one: it may be alike");
        PaySteer x = withTerms(0, 2, 0, 12, 99);
        // Act 1 with 2 and 0 leaves 0, as act 0 does.
        Due.is("promise(2, 0)", x.promise(2, 0), 12 * 1188 - 288);
        x.terms(0, 0, 3, 9, 10);
        Due.is("act 1 alike", x.promise(1, 0), 90);
        x.terms(0, 0, 9, 3, 10);
        Due.is("act 0 alike", x.promise(1, 0), 90);
    }

    private static void noActThatIsWorseIsDone() {
        Due.by("Part 4: the ACT that is done must be no worse for it than the other one");
        Due.is("act 1 is worse", withTerms(0, 1, 0, 12, 99).promise(1, 0), 0);
        Due.is("act 0 is worse", withTerms(1, 0, 12, 0, 99).promise(1, 0), 0);
        Due.is("act 0 is better, though dear", withTerms(1, 2, 3, 12, 99).promise(1, 0), 297 - 12);
    }

    private static void behindTheLastOneOnly0IsPromised() {
        Due.by("Part 4: behind the last one only 0 is promised (and worth 0 to all)");
        PaySteer x = withTerms(0, 0, 6, 6, 10);
        for (int w = 0; w <= 6; w++) {
            Due.is("promise(1, " + w + ")", x.promise(1, w), 60 - 12 * w);
            Due.is("first(1, " + w + ", 2)", x.first(1, w, 2), 0);
            Due.is("first(1, " + w + ", 3)", x.first(1, w, 3), 0);
        }
        for (int w = 7; w <= 12; w++) {
            Due.is("promise(1, " + w + ")", x.promise(1, w), NO);
        }
    }

    private static void justWhatCanBeKeptIsPromised() {
        Due.by("Part 4: u and d must be such as can be kept in the TERMS that follow");
        PaySteer x = withTerms(1, 1, 6, 6, 0);
        // The last term keeps 5 at most, two terms 6 - 1 + 5.
        Due.is("promise(1, 5)", x.promise(1, 5), -72);
        Due.is("promise(1, 6)", x.promise(1, 6), NO);
        Due.is("promise(2, 10)", x.promise(2, 10), -1728);
        Due.is("promise(2, 11)", x.promise(2, 11), NO);
        Due.is("promise(3, 12)", x.promise(3, 12), -15 * 1728);
        // With 12 of 12, or 0 of 12, just one of both counts; it has to be such as can be kept.
        x.terms(1, 1, 12, 12, 0);
        Due.is("promise(2, 11)", x.promise(2, 11), NO);
        x.terms(1, 1, 0, 0, 0);
        Due.is("promise(2, 11)", x.promise(2, 11), NO);
    }

    private static void aSumIsTimes12ToThePowerT() {
        Due.by("Part 4: SUM(t, w), times 12 to the power t");
        PaySteer x = withTerms(0, 0, 12, 12, 99);
        long power = 1;
        for (int t = 1; t <= 6; t++) {
            power *= 12;
            Due.is("promise(" + t + ", 0)", x.promise(t, 0), 99 * t * power);
            Due.is("promise(" + t + ", 6)", x.promise(t, 6), (99 * t - 6) * power);
        }
        Due.is("first of all from later on", withTerms(0, 0, 1, 1, 1).promise(6, 0), 6 * power / 12);
    }

    private static void promiseRefused() {
        tIs1To6();
        wIs0To12();
        whatCantBeKept();
    }

    private static void tIs1To6() {
        Due.by("Promise 20: NO: t not 1 .. 6");
        PaySteer x = new PaySteer(0);
        Due.is("promise(1, 0)", x.promise(1, 0), 30);
        Due.is("promise(2, 0)", x.promise(2, 0), 720);
        Due.that("promise(6, 0)", x.promise(6, 0) != NO);
        for (int t : new int[] {0, -1, 7, 8, MIN, MAX}) {
            Due.is("promise(" + t + ", 0)", x.promise(t, 0), NO);
        }
    }

    private static void wIs0To12() {
        Due.by("Promise 20: NO: w not 0 .. 12");
        PaySteer x = new PaySteer(0);
        Due.is("promise(2, 12)", x.promise(2, 12), -1008);
        for (int w : new int[] {-1, 13, 14, MIN, MAX}) {
            Due.is("promise(2, " + w + ")", x.promise(2, w), NO);
            Due.is("promise(6, " + w + ")", x.promise(6, w), NO);
        }
    }

    private static void whatCantBeKept() {
        Due.by("Promise 20: NO: it can't be kept");
        PaySteer x = withTerms(12, 12, 6, 6, 99);
        for (int t = 1; t <= 6; t++) {
            Due.is("promise(" + t + ", 0)", x.promise(t, 0), NO);
            Due.is("promise(" + t + ", 12)", x.promise(t, 12), NO);
        }
        x.terms(6, 6, 6, 6, 0);
        Due.is("promise(6, 0)", x.promise(6, 0), -36 * 2985984L);
        Due.is("promise(6, 1)", x.promise(6, 1), NO);
    }

    // ---- promise 21

    private static void first() {
        ofSeveralTheLeastAct();
        ofTheseTheLeastAhead();
        ofTheseTheLeastIfGood();
        ofTheseTheLeastIfBad();
        theGreatestPromises();
        firstWhatIs0To3();
        firstLikewise();
    }

    private static void firstIs(PaySteer x, int t, int w, int... due) {
        for (int what = 0; what <= 3; what++) {
            Due.is("first(" + t + ", " + w + ", " + what + ")", x.first(t, w, what), due[what]);
        }
    }

    private static void ofSeveralTheLeastAct() {
        Due.by("Promise 21: of several the least ACT");
        firstIs(withTerms(0, 0, 6, 6, 9), 1, 0, 0, 0, 0, 0);
        firstIs(withTerms(0, 0, 6, 7, 9), 1, 0, 1, 0, 0, 0);
        firstIs(withTerms(0, 0, 6, 7, 0), 1, 0, 0, 0, 0, 0);
        // The dearer one would be worse for the hired.
        firstIs(withTerms(2, 3, 6, 6, 0), 1, 1, 0, 3, 0, 0);
        firstIs(withTerms(3, 2, 6, 6, 0), 1, 1, 1, 3, 0, 0);
    }

    private static void ofTheseTheLeastAhead() {
        Due.by("Promise 21: then the least a");
        PaySteer x = withTerms(0, 0, 6, 6, 0);
        firstIs(x, 2, 1, 0, 0, 0, 2);
        firstIs(x, 2, 6, 0, 0, 6, 6);
        firstIs(x, 2, 7, 0, 1, 6, 6);
        firstIs(x, 2, 12, 0, 6, 6, 6);
    }

    private static void ofTheseTheLeastIfGood() {
        Due.by("Promise 21: then the least u");
        firstIs(withTerms(0, 0, 6, 6, 0), 2, 3, 0, 0, 0, 6);
        firstIs(withTerms(0, 0, 6, 6, 0), 2, 4, 0, 0, 2, 6);
        firstIs(withTerms(0, 0, 4, 4, 0), 2, 4, 0, 0, 0, 6);
        firstIs(withTerms(0, 0, 0, 0, 0), 2, 4, 0, 0, 0, 4);
    }

    private static void theGreatestPromises() {
        Due.by("Part 4: promised worth u, d (0 .. 12)");
        firstIs(withTerms(0, 0, 0, 0, 0), 3, 12, 0, 0, 0, 12);
        firstIs(withTerms(0, 0, 12, 12, 0), 3, 12, 0, 0, 12, 0);
        firstIs(withTerms(0, 0, 6, 6, 0), 3, 12, 0, 0, 12, 12);
        firstIs(withTerms(1, 1, 6, 6, 0), 3, 12, 0, 3, 10, 10);
    }

    private static void ofTheseTheLeastIfBad() {
        Due.by("Promise 21: then the least d");
        firstIs(withTerms(0, 0, 12, 12, 0), 2, 4, 0, 0, 4, 0);
        firstIs(withTerms(0, 12, 12, 0, 0), 3, 12, 0, 0, 12, 0);
    }

    private static void firstWhatIs0To3() {
        Due.by("Promise 21: NONE, what");
        PaySteer x = new PaySteer(0);
        firstIs(x, 3, 4, 1, 0, 9, 1);
        for (int what : new int[] {-1, 4, MIN, MAX}) {
            Due.is("first(3, 4, " + what + ")", x.first(3, 4, what), -1);
        }
    }

    private static void firstLikewise() {
        Due.by("Promise 21: NONE: likewise: t not 1 .. 6, w not 0 .. 12, it can't be kept");
        PaySteer x = new PaySteer(0);
        Due.is("first(6, 0, 1)", x.first(6, 0, 1), 0);
        Due.is("first(1, 0, 1)", x.first(1, 0, 1), 0);
        for (int t : new int[] {0, -1, 7, MIN, MAX}) {
            Due.is("first(" + t + ", 0, 1)", x.first(t, 0, 1), -1);
        }
        for (int w : new int[] {-1, 13, MIN, MAX}) {
            Due.is("first(6, " + w + ", 1)", x.first(6, w, 1), -1);
        }
        Due.is("first(1, 6, 1)", x.first(1, 6, 1), 6);
        Due.is("first(1, 7, 1)", x.first(1, 7, 1), -1);
    }

    // ---- promise 22

    private static void start() {
        ofSeveralTheLeastStart();
        theGreatestSumMayBeBelow0();
        startInNoTerm();
        startWhereNoneCanBeKept();
    }

    private static void ofSeveralTheLeastStart() {
        Due.by("Promise 22: the w with the greatest SUM, of several the least");
        PaySteer x = withTerms(0, 3, 3, 9, 12);
        Due.is("promise(3, 0)", x.promise(3, 0), 15552);
        Due.is("promise(3, 3)", x.promise(3, 3), 15552);
        Due.is("alike with 0 and 3", x.start(3), 0);
        x.terms(0, 3, 3, 9, 11);
        Due.is("more with 0", x.start(3), 0);
        x.terms(0, 3, 3, 9, 13);
        Due.is("more with 3", x.start(3), 3);
        Due.is("asked ahead of all else", withTerms(0, 3, 3, 9, 13).start(3), 3);
    }

    private static void theGreatestSumMayBeBelow0() {
        Due.by("Promise 22: the greatest SUM, below 0, too");
        PaySteer x = withTerms(2, 2, 6, 6, 0);
        Due.is("promise(6, 0)", x.promise(6, 0), -12L * 2985984);
        Due.is("start(6)", x.start(6), 0);
        Due.is("start(1)", x.start(1), 0);
    }

    private static void startInNoTerm() {
        Due.by("Promise 22: NONE: t");
        PaySteer x = new PaySteer(0);
        for (int t = 1; t <= 6; t++) {
            Due.that("start(" + t + ")", x.start(t) >= 0);
        }
        for (int t : new int[] {0, -1, 7, MIN, MAX}) {
            Due.is("start(" + t + ")", x.start(t), -1);
        }
    }

    private static void startWhereNoneCanBeKept() {
        Due.by("Promise 22: NONE: none can be kept");
        PaySteer x = withTerms(6, 6, 6, 6, 0);
        Due.is("a cost of 6", x.start(1), 0);
        x.terms(7, 7, 6, 6, 0);
        for (int t = 1; t <= 6; t++) {
            Due.is("start(" + t + ")", x.start(t), -1);
        }
    }
}
