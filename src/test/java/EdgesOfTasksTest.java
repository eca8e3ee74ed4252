/** Promises 44 to 48: each sentence that names an edge has a test of its own, on objects of its own. */
public final class EdgesOfTasksTest {
    private static final int MIN = Integer.MIN_VALUE;
    private static final int MAX = Integer.MAX_VALUE;

    private EdgesOfTasksTest() {
    }

    public static void main(String[] args) {
        tasks();
        doesBoth();
        rates();
        ratchet();
        ratchetRefused();
        count();
        Due.end("EdgesOfTasksTest");
    }

    private static PaySteer with(int k, int x, int y) {
        PaySteer p = new PaySteer(0);
        p.tasks(k, x, y);
        return p;
    }

    // ---- promise 44

    private static void tasks() {
        tasksAreAll0AtFirst();
        kIs0To9();
        worthOfXIs0To99();
        worthOfYIs0To99();
        refusedTasksChangeNothing();
    }

    private static void tasksAreAll0AtFirst() {
        Due.by("Promise 44: all 0 at first");
        PaySteer p = new PaySteer(0);
        Due.is("no tie", p.doesBoth(40, 40), 88);
        Due.is("no worth: rates(0)", p.rates(0), 0);
        Due.is("no worth: rates(1)", p.rates(1), 0);
        Due.is("no worth: rates(2)", p.rates(2), 0);
    }

    private static void kIs0To9() {
        Due.by("Promise 44: BAD; k (0 .. 9)");
        PaySteer p = new PaySteer(0);
        Due.is("9", p.tasks(9, 0, 0), 0);
        Due.is("a tie of 9", p.doesBoth(40, 40), 8);
        Due.is("0", p.tasks(0, 0, 0), 0);
        Due.is("no tie", p.doesBoth(40, 40), 88);
        for (int k : new int[] {-1, 10, MIN, MAX}) {
            Due.is("tasks(" + k + ", 0, 0)", p.tasks(k, 0, 0), -2);
        }
    }

    private static void worthOfXIs0To99() {
        Due.by("Promise 44: BAD; the worth of effort x (0 .. 99)");
        PaySteer p = new PaySteer(0);
        Due.is("99", p.tasks(0, 99, 0), 0);
        Due.is("rates(1)", p.rates(1), 1600);
        Due.is("0", p.tasks(0, 0, 0), 0);
        Due.is("rates(1)", p.rates(1), 0);
        for (int x : new int[] {-1, 100, MIN, MAX}) {
            Due.is("tasks(0, " + x + ", 0)", p.tasks(0, x, 0), -2);
        }
    }

    private static void worthOfYIs0To99() {
        Due.by("Promise 44: BAD; the worth of y (0 .. 99)");
        PaySteer p = new PaySteer(0);
        Due.is("99", p.tasks(0, 0, 99), 0);
        Due.is("rates(2)", p.rates(2), 16);
        Due.is("0", p.tasks(0, 0, 0), 0);
        Due.is("rates(2)", p.rates(2), 0);
        for (int y : new int[] {-1, 100, MIN, MAX}) {
            Due.is("tasks(0, 0, " + y + ")", p.tasks(0, 0, y), -2);
        }
    }

    private static void refusedTasksChangeNothing() {
        Due.by("Part 7: refusals change nothing: tasks");
        PaySteer p = with(1, 20, 14);
        int both = p.rates(0);
        p.tasks(10, 50, 60);
        p.tasks(2, 100, 60);
        p.tasks(2, 50, -1);
        Due.is("doesBoth(10, 10)", p.doesBoth(10, 10), 33);
        Due.is("rates(0)", p.rates(0), both);
        Due.is("rates(1)", p.rates(1), 1000);
        Due.is("rates(2)", p.rates(2), 6);
    }

    // ---- promise 45

    private static void doesBoth() {
        theLeastXOfSeveral();
        theLeastYOfSeveral();
        effortsAre0To8();
        theTieCounts();
        ratesAre0To40();
    }

    private static void theLeastXOfSeveral() {
        Due.by("Promise 45: the efforts with the most that is left (the least x)");
        PaySteer p = new PaySteer(0);
        // An effort of 1 costs 1, one more costs 3, then 5.
        Due.is("rate 0", p.doesBoth(0, 0), 0);
        Due.is("rate 1", p.doesBoth(1, 0), 0);
        Due.is("rate 2", p.doesBoth(2, 0), 10);
        Due.is("rate 3", p.doesBoth(3, 0), 10);
        Due.is("rate 4", p.doesBoth(4, 0), 20);
        Due.is("x or y, by a tie of 9", with(9, 0, 0).doesBoth(10, 10), 5);
        Due.is("each split of 5, by a tie of 2", with(2, 0, 0).doesBoth(10, 10), 5);
        Due.is("x is paid more", with(2, 0, 0).doesBoth(11, 10), 50);
    }

    private static void theLeastYOfSeveral() {
        Due.by("Promise 45: (the least x, then y)");
        PaySteer p = new PaySteer(0);
        Due.is("rate 1", p.doesBoth(0, 1), 0);
        Due.is("rate 2", p.doesBoth(0, 2), 1);
        Due.is("rate 3", p.doesBoth(0, 3), 1);
        Due.is("rate 4", p.doesBoth(0, 4), 2);
        Due.is("both", p.doesBoth(5, 5), 22);
        // 33, 34 and 43 leave the same, by a tie of 1.
        Due.is("by a tie of 1", with(1, 0, 0).doesBoth(10, 10), 33);
    }

    private static void effortsAre0To8() {
        Due.by("Part 6: efforts x, y 0 .. 8");
        PaySteer p = new PaySteer(0);
        Due.is("rates 15, 15", p.doesBoth(15, 15), 77);
        Due.is("rates 16, 15", p.doesBoth(16, 15), 87);
        Due.is("rates 15, 16", p.doesBoth(15, 16), 78);
        Due.is("rates 18, 18", p.doesBoth(18, 18), 88);
        Due.is("rates 40, 0", p.doesBoth(40, 0), 80);
        Due.is("rates 0, 40", p.doesBoth(0, 40), 8);
    }

    private static void theTieCounts() {
        Due.by("Part 6: toil x x + y y + k x y");
        // Beside 8 of y the first effort of x costs 1 + 8 k.
        Due.is("k 4, 33 and 40", with(4, 0, 0).doesBoth(33, 40), 8);
        Due.is("k 4, 34 and 40", with(4, 0, 0).doesBoth(34, 40), 18);
        Due.is("k 5, 40 and 40", with(5, 0, 0).doesBoth(40, 40), 8);
    }

    private static void ratesAre0To40() {
        Due.by("Promise 45: BAD; rates (0 .. 40)");
        PaySteer p = new PaySteer(0);
        Due.is("doesBoth(0, 40)", p.doesBoth(0, 40), 8);
        Due.is("doesBoth(40, 0)", p.doesBoth(40, 0), 80);
        for (int rate : new int[] {-1, 41, MIN, MAX}) {
            Due.is("doesBoth(" + rate + ", 0)", p.doesBoth(rate, 0), -2);
            Due.is("doesBoth(0, " + rate + ")", p.doesBoth(0, rate), -2);
        }
    }

    // ---- promise 46

    private static void rates() {
        theLeastXRateOfSeveral();
        theLeastYRateOfSeveral();
        theOtherRateIs0();
        nothingIsWorthARate();
        ratesUpTo40();
        seenIs0To2();
    }

    private static void theLeastXRateOfSeveral() {
        Due.by("Promise 46: of several the least x rate");
        // With 14 a rate of 6 has 8 times 3, a rate of 8 has 6 times 4.
        Due.is("worth 14: just x", with(0, 14, 0).rates(1), 600);
        Due.is("worth 14: both", with(0, 14, 0).rates(0), 600);
        Due.is("worth 13", with(0, 13, 0).rates(1), 600);
        Due.is("worth 15", with(0, 15, 0).rates(1), 800);
        // By a tie of 9 one of both is done: with x 50 for 10, with y 50 for 10.
        Due.is("x or y", with(9, 20, 20).rates(0), 10);
    }

    private static void theLeastYRateOfSeveral() {
        Due.by("Promise 46: then y rate");
        Due.is("worth 14: just y", with(0, 0, 14).rates(2), 6);
        Due.is("worth 14: both", with(0, 0, 14).rates(0), 6);
        Due.is("worth 14 each", with(0, 14, 14).rates(0), 606);
        Due.is("worth 15", with(0, 0, 15).rates(2), 8);
    }

    private static void theOtherRateIs0() {
        Due.by("Promise 46: where just x (seen 1), y (2) is seen the other rate is 0");
        PaySteer p = with(0, 20, 12);
        Due.is("seen 0", p.rates(0), 1006);
        Due.is("seen 1", p.rates(1), 1000);
        Due.is("seen 2", p.rates(2), 6);
        PaySteer free = with(0, 0, 20);
        Due.is("just x is seen, and worth nothing", free.rates(1), 0);
        Due.is("just y is seen", free.rates(2), 10);
    }

    private static void nothingIsWorthARate() {
        Due.by("Promise 46: nothing is worth a rate: the least ones");
        // A rate of 2 is the first one for which something is done.
        Due.is("worth 2", with(0, 2, 2).rates(0), 0);
        Due.is("worth 3", with(0, 3, 3).rates(0), 202);
        Due.is("worth 1", with(0, 1, 1).rates(1), 0);
        Due.is("worth 3, just x", with(0, 3, 0).rates(1), 200);
        Due.is("worth 3, just y", with(0, 0, 3).rates(2), 2);
    }

    private static void ratesUpTo40() {
        Due.by("Promise 46: rates (0 .. 40)");
        // Both do 8 for 16 and 8 k each; by a tie of 4 that is too much, and 40 each still moves x 4 and y 8.
        int[] due = {1616, 2424, 3232, 4040, 4040, 16, 16, 16, 16, 16};
        for (int k = 0; k <= 9; k++) {
            Due.is("k " + k + ", worth 99 each", with(k, 99, 99).rates(0), due[k]);
        }
        Due.is("k 4, 40 and 40", with(4, 0, 0).doesBoth(40, 40), 48);
        Due.is("k 3, 40 and 40", with(3, 0, 0).doesBoth(40, 40), 88);
    }

    private static void seenIs0To2() {
        Due.by("Promise 46: NONE");
        PaySteer p = with(0, 20, 20);
        Due.is("rates(2)", p.rates(2), 10);
        for (int seen : new int[] {-1, 3, MIN, MAX}) {
            Due.is("rates(" + seen + ")", p.rates(seen), -1);
        }
    }

    // ---- promise 47

    private static void ratchet() {
        theLeastMOfSeveral();
        theLeastNOfSeveral();
        leavingBehindTheFirstYear();
        madeIs0To19();
        theToilOfKind1();
        theStepIsTakenOff();
    }

    private static void ratchetIs(int kind, int rate, int step, int m, int n, int left) {
        PaySteer p = new PaySteer(0);
        String call = "ratchet(" + kind + ", " + rate + ", " + step + ", ";
        Due.is(call + "0)", p.ratchet(kind, rate, step, 0), m);
        Due.is(call + "1)", p.ratchet(kind, rate, step, 1), n);
        Due.is(call + "2)", p.ratchet(kind, rate, step, 2), left);
    }

    private static void theLeastMOfSeveral() {
        Due.by("Promise 47: of several the least m");
        // To stay leaves what n leaves, less m m, less rate times step: with a step of 0 just as much as to leave.
        ratchetIs(0, 10, 0, 0, 5, 25);
        ratchetIs(0, 2, 0, 0, 1, 1);
        // To leave with 5 or 6 is alike.
        ratchetIs(0, 11, 1, 5, 0, 30);
        ratchetIs(0, 3, 9, 1, 0, 2);
        ratchetIs(0, 1, 5, 0, 0, 0);
    }

    private static void theLeastNOfSeveral() {
        Due.by("Promise 47: then n");
        ratchetIs(0, 11, 0, 0, 5, 30);
        ratchetIs(0, 3, 0, 0, 1, 2);
        ratchetIs(0, 1, 0, 0, 0, 0);
        ratchetIs(0, 0, 0, 0, 0, 0);
        ratchetIs(1, 2, 0, 0, 0, 0);
        ratchetIs(1, 6, 0, 0, 1, 4);
    }

    private static void leavingBehindTheFirstYear() {
        Due.by("Part 6: or it leaves behind the first year and has no second one (n is 0 then)");
        ratchetIs(0, 10, 1, 5, 0, 25);
        ratchetIs(0, 20, 1, 10, 0, 100);
        ratchetIs(1, 40, 5, 10, 0, 200);
        ratchetIs(0, 10, 9, 5, 0, 25);
    }

    private static void madeIs0To19() {
        Due.by("Part 6: first m, then n (0 .. 19 each)");
        ratchetIs(0, 40, 0, 0, 19, 399);
        ratchetIs(0, 39, 0, 0, 19, 380);
        ratchetIs(0, 38, 0, 0, 19, 361);
        ratchetIs(0, 37, 0, 0, 18, 342);
        ratchetIs(0, 40, 9, 19, 0, 399);
        ratchetIs(0, 38, 1, 19, 0, 361);
    }

    private static void theToilOfKind1() {
        Due.by("Part 6: toil m m (KIND 0), 2 m m (KIND 1)");
        ratchetIs(1, 10, 0, 0, 2, 12);
        ratchetIs(1, 10, 1, 2, 0, 12);
        ratchetIs(1, 40, 0, 0, 10, 200);
        ratchetIs(1, 4, 0, 0, 1, 2);
    }

    private static void theStepIsTakenOff() {
        Due.by("Part 6: then rate times (n less m less step)");
        // Without a step it stays and makes nothing at first; with one it leaves.
        for (int rate = 1; rate <= 40; rate++) {
            int alone = Math.min(19, rate / 2);
            int left = rate * alone - alone * alone;
            ratchetIs(0, rate, 0, 0, alone, left);
            for (int step = 1; step <= 9; step++) {
                ratchetIs(0, rate, step, alone, 0, left);
            }
        }
    }

    private static void ratchetRefused() {
        kindIs0Or1();
        ratchetWhatIs0To2();
        ratchetRateIs0To40();
        stepIs0To9();
        ratchetNoneAheadOfBad();
    }

    private static void kindIs0Or1() {
        Due.by("Promise 47: NONE, KIND");
        PaySteer p = new PaySteer(0);
        for (int kind : new int[] {-1, 2, MIN, MAX}) {
            Due.is("kind " + kind, p.ratchet(kind, 10, 1, 0), -1);
        }
    }

    private static void ratchetWhatIs0To2() {
        Due.by("Promise 47: NONE, what");
        PaySteer p = new PaySteer(0);
        for (int what : new int[] {-1, 3, MIN, MAX}) {
            Due.is("what " + what, p.ratchet(0, 10, 1, what), -1);
        }
    }

    private static void ratchetRateIs0To40() {
        Due.by("Promise 47: BAD; rate 0 .. 40");
        PaySteer p = new PaySteer(0);
        Due.is("rate 0", p.ratchet(0, 0, 1, 2), 0);
        Due.is("rate 40", p.ratchet(0, 40, 1, 2), 399);
        for (int rate : new int[] {-1, 41, MIN, MAX}) {
            Due.is("rate " + rate, p.ratchet(0, rate, 1, 2), -2);
        }
    }

    private static void stepIs0To9() {
        Due.by("Promise 47: BAD; step 0 .. 9");
        PaySteer p = new PaySteer(0);
        Due.is("step 0", p.ratchet(0, 10, 0, 1), 5);
        Due.is("step 9", p.ratchet(0, 10, 9, 1), 0);
        for (int step : new int[] {-1, 10, MIN, MAX}) {
            Due.is("step " + step, p.ratchet(0, 10, step, 1), -2);
        }
    }

    private static void ratchetNoneAheadOfBad() {
        Due.by("Part 7: of several the first one told: ratchet, NONE ahead of BAD");
        PaySteer p = new PaySteer(0);
        Due.is("kind and rate", p.ratchet(2, 41, 0, 0), -1);
        Due.is("what and step", p.ratchet(0, 0, 10, 3), -1);
        Due.is("what and rate", p.ratchet(0, -1, 0, -1), -1);
    }

    // ---- promise 48

    private static void count() {
        allCountsAtFirst();
        eachCountIsItsOwn();
        countsOfWhatIsFull();
        whatIsCountedIs0To5();
    }

    private static void countsAre(PaySteer x, int... due) {
        for (int what = 0; what <= 5; what++) {
            Due.is("count(" + what + ")", x.count(what), due[what]);
        }
    }

    private static void allCountsAtFirst() {
        Due.by("Promise 48: a new object");
        countsAre(new PaySteer(0), 0, 2, 0, 0, 0, 0);
        countsAre(new PaySteer(1), 0, 3, 0, 0, 0, 0);
        countsAre(new PaySteer(2), 0, 4, 0, 0, 0, 0);
    }

    private static void eachCountIsItsOwn() {
        Due.by("Promise 48: 0 ACTS, 1 SIGHTS, 2 RESERVE, 3 CONTRACTS, 4 YEARS, 5 bytes of THE TAPE");
        PaySteer x = new PaySteer(0);
        x.act(0);
        countsAre(x, 1, 2, 0, 0, 0, 0);
        x.reserve(7);
        countsAre(x, 1, 2, 7, 0, 0, 0);
        x.feed(0x39, 1);
        countsAre(x, 1, 2, 7, 0, 0, 1);
        x.contract();
        countsAre(x, 1, 2, 7, 1, 0, 0);
        x.year(0);
        countsAre(x, 1, 2, 7, 1, 1, 0);
        x.back();
        countsAre(x, 1, 2, 7, 1, 0, 0);
    }

    private static void countsOfWhatIsFull() {
        Due.by("Promise 48: the greatest counts");
        PaySteer x = new PaySteer(2);
        x.reserve(99);
        for (int i = 0; i < 9; i++) {
            x.act(0);
            x.feed(0x39, 1);
            x.contract();
        }
        for (int i = 0; i < 61; i++) {
            x.year(0);
        }
        // A byte of the ninth contract is there, for which there was no room.
        for (int i = 0; i < 15; i++) {
            x.feed(0x39, 8);
        }
        countsAre(x, 4, 4, 99, 8, 60, 113);
        x.feed(0x39, 7);
        countsAre(x, 4, 4, 99, 8, 60, 120);
    }

    private static void whatIsCountedIs0To5() {
        Due.by("Promise 48: NONE");
        PaySteer x = new PaySteer(0);
        for (int what : new int[] {-1, 6, MIN, MAX}) {
            Due.is("count(" + what + ")", x.count(what), -1);
        }
    }
}
