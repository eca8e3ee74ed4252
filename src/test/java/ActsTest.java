/** Promises 1 to 15: acts and the least pay, by runs worked out by hand. */
public final class ActsTest {
    private static final int MIN = Integer.MIN_VALUE;
    private static final int MAX = Integer.MAX_VALUE;
    private static final long NO = Long.MIN_VALUE;

    private ActsTest() {
    }

    public static void main(String[] args) {
        promise1();
        promise2();
        promise3();
        promise4();
        promise5();
        promise6();
        promise7();
        promise8();
        promise9();
        promise10();
        promise11();
        promise11InTwoWorlds();
        promise12();
        promise12OfSeveral();
        promise13();
        promise14();
        promise15();
        Due.end("ActsTest");
    }

    private static void fraction(String call, long above, long below, long dueAbove, long dueBelow) {
        Due.is(call + " above", above, dueAbove);
        Due.is(call + " below", below, dueBelow);
    }

    private static void promise1() {
        int[] made = {0, 1, 2, 3, 4, 5, 6, -1, -2, -3, -4, MAX, MIN};
        int[] sights = {2, 3, 4, 2, 3, 4, 2, 4, 3, 2, 4, 3, 3};
        for (int i = 0; i < made.length; i++) {
            PaySteer x = new PaySteer(made[i]);
            String with = "with " + made[i] + " ";
            Due.is(with + "count(1)", x.count(1), sights[i]);
            Due.is(with + "count(0)", x.count(0), 0);
            Due.is(with + "reserve", x.reserve(0), 0);
            for (int k = 0; k < 4; k++) {
                Due.is(with + "pay(" + k + ", 0)", x.pay(k, 0), k < sights[i] ? 0 : -1);
                Due.is(with + "value(" + k + ", 0)", x.value(k, 0), k < sights[i] ? 0 : -1000);
            }
            Due.is(with + "answer", x.answer(0), -1);
        }
        Due.is("NONE", PaySteer.NONE, -1);
        Due.is("BAD", PaySteer.BAD, -2);
        Due.is("STATE", PaySteer.STATE, -3);
        Due.is("FULL", PaySteer.FULL, -4);
        Due.is("NO", PaySteer.NO, NO);
    }

    private static void promise2() {
        PaySteer x = new PaySteer(2);
        Due.is("act(-1)", x.act(-1), -2);
        Due.is("act(100)", x.act(100), -2);
        Due.is("act(MIN)", x.act(MIN), -2);
        Due.is("act(MAX)", x.act(MAX), -2);
        Due.is("none is there", x.count(0), 0);
        int[] costs = {0, 99, 7, 50};
        x.pay(0, 5);
        x.pay(3, 900);
        for (int a = 0; a < 4; a++) {
            Due.is("act", x.act(costs[a]), a);
            Due.is("acts", x.count(0), a + 1);
            Due.is("all 12 at sight 0, world 0", x.gain(a, 0), 60 - 12 * costs[a]);
            Due.is("all 12 at sight 0, world 1", x.gain(a, 1), 60 - 12 * costs[a]);
        }
        Due.is("a fifth act", x.act(1), -4);
        Due.is("a bad fifth act", x.act(100), -2);
        Due.is("acts", x.count(0), 4);
    }

    private static void promise3() {
        PaySteer x = new PaySteer(0);
        Due.is("cost of none", x.cost(0, 1), -1);
        x.act(40);
        x.act(41);
        Due.is("cost(2, 1)", x.cost(2, 1), -1);
        Due.is("cost(-1, 1)", x.cost(-1, 1), -1);
        Due.is("cost(2, 100)", x.cost(2, 100), -1);
        Due.is("cost(MAX, 1)", x.cost(MAX, 1), -1);
        Due.is("cost(MIN, 1)", x.cost(MIN, 1), -1);
        Due.is("cost(1, -1)", x.cost(1, -1), -2);
        Due.is("cost(1, 100)", x.cost(1, 100), -2);
        Due.is("cost(1, 99)", x.cost(1, 99), 41);
        Due.is("cost(1, 0)", x.cost(1, 0), 99);
        Due.is("cost(1, 5)", x.cost(1, 5), 0);
        Due.is("gain(1, 0)", x.gain(1, 0), -60);
        Due.is("cost(0, 1)", x.cost(0, 1), 40);
    }

    private static void promise4() {
        PaySteer x = new PaySteer(1);
        Due.is("chances of none", x.chances(0, 0, 12), -1);
        x.act(0);
        x.act(0);
        x.pay(0, 1);
        x.pay(1, 20);
        x.pay(2, 300);
        Due.is("chances(1, 0, 0x345)", x.chances(1, 0, 0x345), 0);
        Due.is("gain(1, 0)", x.gain(1, 0), 5 + 80 + 900);
        Due.is("the other world", x.gain(1, 1), 12);
        Due.is("the other act", x.gain(0, 0), 12);
        Due.is("chances(1, 1, 0xc00)", x.chances(1, 1, 0xc00), 0);
        Due.is("gain(1, 1)", x.gain(1, 1), 3600);
        int[] bad = {0, 0x344, 0x346, 0x1344, 0x1345, 0xc000, 0x10000345, 0x80000345, -1, MIN, MAX, 0xcc, 11, 13};
        for (int row : bad) {
            Due.is("chances(1, 0, " + row + ")", x.chances(1, 0, row), -2);
        }
        Due.is("nothing changed", x.gain(1, 0), 985);
        int[] none = {-1, 2, MIN, MAX};
        for (int no : none) {
            Due.is("act " + no, x.chances(no, 0, 12), -1);
            Due.is("world " + no, x.chances(0, no, 12), -1);
            Due.is("world " + no + ", bad row", x.chances(0, no, 0), -1);
        }
        PaySteer four = new PaySteer(2);
        four.act(0);
        four.pay(3, 7);
        Due.is("four sights", four.chances(0, 0, 0x4233), 0);
        Due.is("four sights' gain", four.gain(0, 0), 28);
        Due.is("a fifth digit", four.chances(0, 0, 0x14222), -2);
        Due.is("a fifth digit beside 12", four.chances(0, 0, 0x14233), -2);
        PaySteer two = new PaySteer(0);
        two.act(0);
        Due.is("two sights", two.chances(0, 0, 0x66), 0);
        Due.is("a third digit", two.chances(0, 0, 0x165), -2);
        Due.is("a third digit beside 12", two.chances(0, 0, 0x166), -2);
    }

    private static void promise5() {
        PaySteer x = new PaySteer(1);
        Due.is("value(2, -99)", x.value(2, -99), 0);
        Due.is("value(2, 99)", x.value(2, 99), -99);
        Due.is("value(2, 100)", x.value(2, 100), -1000);
        Due.is("value(2, -100)", x.value(2, -100), -1000);
        Due.is("value(3, 1)", x.value(3, 1), -1000);
        Due.is("value(-1, 1)", x.value(-1, 1), -1000);
        Due.is("value(MIN, 1)", x.value(MIN, 1), -1000);
        Due.is("value(2, 0)", x.value(2, 0), 99);
        Due.is("value(0, 3)", x.value(0, 3), 0);
        Due.is("value(0, 4)", x.value(0, 4), 3);
    }

    private static void promise6() {
        PaySteer x = new PaySteer(0);
        Due.is("reserve(99)", x.reserve(99), 0);
        Due.is("reserve(100)", x.reserve(100), -2);
        Due.is("reserve(-1)", x.reserve(-1), -2);
        Due.is("reserve(MAX)", x.reserve(MAX), -2);
        Due.is("reserve(0)", x.reserve(0), 99);
        Due.is("reserve(8)", x.reserve(8), 0);
        Due.is("count(2)", x.count(2), 8);
    }

    private static void promise7() {
        PaySteer x = new PaySteer(0);
        Due.is("pay(0, 999)", x.pay(0, 999), 0);
        Due.is("pay(1, 3)", x.pay(1, 3), 0);
        Due.is("pay(0, 1000)", x.pay(0, 1000), -2);
        Due.is("pay(0, -1)", x.pay(0, -1), -2);
        Due.is("pay(2, 1)", x.pay(2, 1), -1);
        Due.is("pay(2, 1000)", x.pay(2, 1000), -1);
        Due.is("pay(-1, 1)", x.pay(-1, 1), -1);
        Due.is("pay(MAX, 1)", x.pay(MAX, 1), -1);
        Due.is("pay(0, 0)", x.pay(0, 0), 999);
        Due.is("pay(1, 0)", x.pay(1, 0), 3);
    }

    private static void promise8() {
        PaySteer x = new PaySteer(0);
        Due.is("gain of none", x.gain(0, 0), NO);
        x.act(99);
        x.chances(0, 0, 0x57);
        Due.is("below 0", x.gain(0, 0), -1188);
        x.pay(0, 999);
        x.pay(1, 998);
        Due.is("gain(0, 0)", x.gain(0, 0), 7 * 999 + 5 * 998 - 1188);
        Due.is("gain(0, 1)", x.gain(0, 1), 12 * 999 - 1188);
        int[] none = {-1, 2, MIN, MAX};
        for (int no : none) {
            Due.is("act " + no, x.gain(no, 0), NO);
            Due.is("world " + no, x.gain(0, no), NO);
        }
        Due.is("gain(1, 0)", x.gain(1, 0), NO);
    }

    private static void promise9() {
        PaySteer x = new PaySteer(0);
        Due.is("no act", x.answer(0), -1);
        x.act(5);
        x.act(5);
        x.act(5);
        Due.is("all alike", x.answer(0), 0);
        x.chances(2, 0, 0x66);
        x.value(1, 1);
        Due.is("better for the one who hires", x.answer(0), 2);
        Due.is("the other world", x.answer(1), 0);
        x.chances(1, 0, 0x66);
        Due.is("the least of two", x.answer(0), 1);
        x.value(1, -1);
        Due.is("worse for the one who hires", x.answer(0), 0);
        x.pay(1, 1);
        Due.is("the greatest gain", x.answer(0), 1);
        x.cost(1, 6);
        Due.is("the greatest gain of another", x.answer(0), 2);
        // Gains alike: 120 - 60 and 60 - 0. Act 0 is paid 120; act 2 60, and is worth 6 v.
        x.pay(1, 0);
        x.pay(0, 10);
        x.cost(2, 0);
        Due.is("the one that is paid less", x.answer(0), 2);
        x.value(1, -9);
        Due.is("paid less, still better", x.answer(0), 2);
        x.value(1, -10);
        Due.is("alike in all", x.answer(0), 0);
        x.value(1, -11);
        Due.is("paid less, but worse", x.answer(0), 0);
        Due.is("answer(2)", x.answer(2), -1);
        Due.is("answer(-1)", x.answer(-1), -1);
        Due.is("answer(MAX)", x.answer(MAX), -1);
        Due.is("answer(MIN)", x.answer(MIN), -1);
    }

    /** Act 1 costs 6 more than act 0, and makes sight 1 come with 9 of 12 where act 0 makes it come with 3. */
    private static PaySteer twoActs() {
        PaySteer x = new PaySteer(0);
        x.act(0);
        x.act(6);
        x.chances(0, 0, 0x39);
        x.chances(1, 0, 0x93);
        return x;
    }

    private static void promise10() {
        PaySteer x = twoActs();
        Due.is("steers(1, 1)", x.steers(1, 1), 1);
        Due.is("steers(0, 1)", x.steers(0, 1), 1);
        Due.is("dearer with the same chances", x.steers(1, 2), 0);
        Due.is("cheaper with the same chances", x.steers(0, 2), 1);
        Due.is("in both worlds", x.steers(1, 3), 0);
        Due.is("act 0 in both", x.steers(0, 3), 1);
        x.reserve(99);
        Due.is("whatever the reserve", x.steers(1, 1), 1);
        // What steers in each world alone need not steer in both.
        x.chances(0, 1, 0x93);
        x.chances(1, 1, 0x39);
        Due.is("other world, other way", x.steers(1, 2), 1);
        Due.is("against one another", x.steers(1, 3), 0);
        int[] bad = {0, 4, -1, MIN, MAX};
        for (int set : bad) {
            Due.is("set " + set, x.steers(1, set), -2);
            Due.is("no act, set " + set, x.steers(2, set), -1);
        }
        int[] none = {-1, 2, 4, MIN, MAX};
        for (int no : none) {
            Due.is("act " + no, x.steers(no, 1), -1);
        }
    }

    private static void promise11() {
        PaySteer x = twoActs();
        fraction("least(1, 1, -1)", x.least(1, 1, -1, 0), x.least(1, 1, -1, 1), 9, 1);
        fraction("least(1, 1, 0)", x.least(1, 1, 0, 0), x.least(1, 1, 0, 1), 0, 1);
        fraction("least(1, 1, 1)", x.least(1, 1, 1, 0), x.least(1, 1, 1, 1), 12, 1);
        fraction("least(0, 1, -1)", x.least(0, 1, -1, 0), x.least(0, 1, -1, 1), 0, 1);
        // With the reserve the mean pay is just 16, and of all pay with that the least at sight 0.
        x.reserve(10);
        fraction("reserve 10", x.least(1, 1, -1, 0), x.least(1, 1, -1, 1), 16, 1);
        fraction("reserve 10, sight 0", x.least(1, 1, 0, 0), x.least(1, 1, 0, 1), 0, 1);
        fraction("reserve 10, sight 1", x.least(1, 1, 1, 0), x.least(1, 1, 1, 1), 64, 3);
        // Act 0 with the reserve: 9 a + 3 b is 120, b not above a and 12.
        fraction("act 0, reserve 10", x.least(0, 1, -1, 0), x.least(0, 1, -1, 1), 10, 1);
        fraction("act 0, sight 0", x.least(0, 1, 0, 0), x.least(0, 1, 0, 1), 7, 1);
        fraction("act 0, sight 1", x.least(0, 1, 1, 0), x.least(0, 1, 1, 1), 19, 1);
        Due.is("none steers", x.least(1, 2, -1, 0), NO);
        Due.is("none steers in both", x.least(1, 3, 0, 1), NO);
        int[] none = {-1, 2, MIN, MAX};
        for (int no : none) {
            Due.is("act " + no, x.least(no, 1, 0, 0), NO);
            Due.is("what " + no, x.least(1, 1, 0, no), NO);
            Due.is("mean, what " + no, x.least(1, 1, -1, no), NO);
        }
        int[] noSights = {-2, 2, 3, MIN, MAX};
        for (int no : noSights) {
            Due.is("sight " + no, x.least(1, 1, no, 0), NO);
        }
        int[] noSets = {0, 4, -1, MIN, MAX};
        for (int no : noSets) {
            Due.is("set " + no, x.least(1, no, 0, 0), NO);
        }
    }

    private static void promise11InTwoWorlds() {
        PaySteer x = twoActs();
        x.chances(0, 1, 0x57);
        x.chances(1, 1, 0x75);
        fraction("world 0", x.least(1, 1, -1, 0), x.least(1, 1, -1, 1), 9, 1);
        fraction("world 1", x.least(1, 2, -1, 0), x.least(1, 2, -1, 1), 21, 1);
        fraction("both: the mean in the first", x.least(1, 3, -1, 0), x.least(1, 3, -1, 1), 27, 1);
        fraction("both: at sight 1", x.least(1, 3, 1, 0), x.least(1, 3, 1, 1), 36, 1);
        Due.is("the pay that is told stays", x.pay(1, 0), 0);
    }

    private static void promise12() {
        PaySteer x = new PaySteer(0);
        x.act(0);
        x.act(9);
        x.act(10);
        x.chances(1, 0, 0x66);
        x.chances(2, 0, 0xc0);
        fraction("sum", x.proof(1, 0, -1, 0), x.proof(1, 0, -1, 1), 5, 1);
        fraction("share of 0", x.proof(1, 0, 0, 0), x.proof(1, 0, 0, 1), 1, 2);
        fraction("share of 2", x.proof(1, 0, 2, 0), x.proof(1, 0, 2, 1), 1, 2);
        Due.is("its own share", x.proof(1, 0, 1, 0), NO);
        Due.is("some pay steers to 0", x.proof(0, 0, 1, 0), NO);
        Due.is("some pay steers to 2", x.proof(2, 0, -1, 1), NO);
        fraction("world 1", x.proof(1, 1, 0, 0), x.proof(1, 1, 0, 1), 1, 1);
        fraction("world 1, sum", x.proof(1, 1, -1, 0), x.proof(1, 1, -1, 1), 0, 1);
        fraction("world 1, share of 2", x.proof(1, 1, 2, 0), x.proof(1, 1, 2, 1), 0, 1);
        x.cost(1, 5);
        Due.is("no dearer than the mixture", x.proof(1, 0, 0, 0), NO);
        x.cost(1, 6);
        fraction("just dearer", x.proof(1, 0, -1, 0), x.proof(1, 0, -1, 1), 5, 1);
        int[] none = {-1, 3, MIN, MAX};
        for (int no : none) {
            Due.is("act " + no, x.proof(no, 0, 0, 0), NO);
            Due.is("what " + no, x.proof(1, 0, 0, no), NO);
            Due.is("world " + no, x.proof(1, no, 0, 0), NO);
        }
        Due.is("world 2", x.proof(1, 2, 0, 0), NO);
        Due.is("what 2", x.proof(1, 0, -1, 2), NO);
        int[] noOthers = {-2, 3, MIN, MAX};
        for (int no : noOthers) {
            Due.is("other " + no, x.proof(1, 0, no, 0), NO);
        }
    }

    private static void promise12OfSeveral() {
        PaySteer x = new PaySteer(0);
        x.act(5);
        x.act(1);
        x.act(1);
        x.act(2);
        fraction("the least share of the least act", x.proof(0, 0, 1, 0), x.proof(0, 0, 1, 1), 0, 1);
        fraction("all of the next", x.proof(0, 0, 2, 0), x.proof(0, 0, 2, 1), 1, 1);
        fraction("none of the dearer", x.proof(0, 0, 3, 0), x.proof(0, 0, 3, 1), 0, 1);
        fraction("the sum", x.proof(0, 0, -1, 0), x.proof(0, 0, -1, 1), 1, 1);
        fraction("shares of 3", x.proof(3, 0, 2, 0), x.proof(3, 0, 2, 1), 1, 1);
        // Act 0 as thirds: 8 at sight 1 is two thirds of 12.
        x.chances(0, 0, 0x84);
        x.chances(1, 0, 0xc0);
        x.chances(2, 0, 0x93);
        fraction("thirds: share of 1", x.proof(0, 0, 1, 0), x.proof(0, 0, 1, 1), 0, 1);
        fraction("thirds: share of 2", x.proof(0, 0, 2, 0), x.proof(0, 0, 2, 1), 8, 9);
        fraction("thirds: share of 3", x.proof(0, 0, 3, 0), x.proof(0, 0, 3, 1), 1, 9);
        fraction("thirds: the sum", x.proof(0, 0, -1, 0), x.proof(0, 0, -1, 1), 10, 9);
    }

    private static void promise13() {
        PaySteer x = new PaySteer(0);
        Due.is("no act", x.best(0), -1);
        x = twoActs();
        Due.is("both have 0 and less", x.best(0), 0);
        x.value(1, 40);
        Due.is("10 or 21", x.best(0), 1);
        Due.is("the other world", x.best(1), 0);
        // 3 v / 12 and 9 v / 12 - 9 are alike with v 18.
        x.value(1, 18);
        Due.is("the least of two", x.best(0), 0);
        x.value(1, 19);
        Due.is("just more", x.best(0), 1);
        // None steers to act 0 in world 1 any more, where it has the most.
        x.cost(0, 7);
        Due.is("of those to which some pay steers", x.best(1), 1);
        Due.is("best(2)", x.best(2), -1);
        Due.is("best(-1)", x.best(-1), -1);
        Due.is("best(MAX)", x.best(MAX), -1);
    }

    private static void promise14() {
        PaySteer x = new PaySteer(0);
        Due.is("no act", x.bestGain(0, 0), NO);
        x = twoActs();
        x.value(1, 40);
        fraction("bestGain(0)", x.bestGain(0, 0), x.bestGain(0, 1), 21, 1);
        x.value(1, 35);
        fraction("a fraction", x.bestGain(0, 0), x.bestGain(0, 1), 69, 4);
        x.value(0, -99);
        x.value(1, -98);
        fraction("below 0", x.bestGain(0, 0), x.bestGain(0, 1), -395, 4);
        fraction("world 1", x.bestGain(1, 0), x.bestGain(1, 1), -99, 1);
        Due.is("bestGain(2, 0)", x.bestGain(2, 0), NO);
        Due.is("bestGain(-1, 0)", x.bestGain(-1, 0), NO);
        Due.is("bestGain(0, 2)", x.bestGain(0, 2), NO);
        Due.is("bestGain(0, -1)", x.bestGain(0, -1), NO);
    }

    private static void promise15() {
        PaySteer x = twoActs();
        fraction("each as itself", x.coarser(1, 0, 0x10, 0), x.coarser(1, 0, 0x10, 1), 9, 1);
        fraction("one as the other", x.coarser(1, 0, 0x01, 0), x.coarser(1, 0, 0x01, 1), 9, 1);
        Due.is("all as 0", x.coarser(1, 0, 0x00, 0), NO);
        Due.is("all as 1", x.coarser(1, 0, 0x11, 1), NO);
        fraction("act 0, all as 1", x.coarser(0, 0, 0x11, 0), x.coarser(0, 0, 0x11, 1), 0, 1);
        x.cost(1, 7);
        fraction("a fraction", x.coarser(1, 0, 0x10, 0), x.coarser(1, 0, 0x10, 1), 21, 2);
        int[] bad = {0x02, 0x20, 0x12, 0x110, 0x1010, 0x10000010, 0x80000010, -1, MIN, MAX};
        for (int joins : bad) {
            Due.is("joins " + joins, x.coarser(1, 0, joins, 0), NO);
        }
        int[] none = {-1, 2, MIN, MAX};
        for (int no : none) {
            Due.is("act " + no, x.coarser(no, 0, 0x10, 0), NO);
            Due.is("world " + no, x.coarser(1, no, 0x10, 0), NO);
            Due.is("what " + no, x.coarser(1, 0, 0x10, no), NO);
        }
        fraction("the least pay is as before", x.least(1, 1, 1, 0), x.least(1, 1, 1, 1), 14, 1);
        PaySteer three = new PaySteer(1);
        three.act(0);
        three.act(4);
        three.chances(0, 0, 0x444);
        three.chances(1, 0, 0x606);
        // 2 a - 4 b + 2 c must be 48; joined, 2 c - 2 a, or 4 a - 4 b.
        fraction("three apart", three.coarser(1, 0, 0x210, 0), three.coarser(1, 0, 0x210, 1), 12, 1);
        fraction("0 and 1 joined", three.coarser(1, 0, 0x200, 0), three.coarser(1, 0, 0x200, 1), 12, 1);
        fraction("0 and 2 joined", three.coarser(1, 0, 0x010, 0), three.coarser(1, 0, 0x010, 1), 12, 1);
        three.chances(1, 0, 0x480);
        fraction("at sight 1", three.coarser(1, 0, 0x210, 0), three.coarser(1, 0, 0x210, 1), 8, 1);
        Due.is("0 and 1 joined tell nothing", three.coarser(1, 0, 0x200, 0), NO);
    }
}
