/** Promises 16 to 22: menus and promises over terms, by runs worked out by hand. */
public final class OffersTest {
    private static final int MIN = Integer.MIN_VALUE;
    private static final int MAX = Integer.MAX_VALUE;
    private static final long NO = Long.MIN_VALUE;

    private OffersTest() {
    }

    public static void main(String[] args) {
        promise16();
        promise17();
        promise17Refused();
        promise18();
        promise19();
        promise20();
        promise21();
        promise22();
        Due.end("OffersTest");
    }

    private static void promise16() {
        PaySteer x = new PaySteer(0);
        Due.is("work(9, 9999)", x.work(9, 9999), 0);
        Due.is("work(9, 0)", x.work(9, 0), 9999);
        Due.is("work(1, 7)", x.work(1, 7), 0);
        Due.is("work(1, 8)", x.work(1, 8), 7);
        Due.is("work(9, 1)", x.work(9, 1), 0);
        Due.is("work(0, 1)", x.work(0, 1), -1);
        Due.is("work(10, 1)", x.work(10, 1), -1);
        Due.is("work(10, -1)", x.work(10, -1), -1);
        Due.is("work(MIN, 1)", x.work(MIN, 1), -1);
        Due.is("work(MAX, 1)", x.work(MAX, 1), -1);
        Due.is("work(1, -1)", x.work(1, -1), -2);
        Due.is("work(1, 10000)", x.work(1, 10000), -2);
        Due.is("work(1, 8) again", x.work(1, 8), 8);
    }

    private static void menuIs(PaySteer x, int rate0, int rate1, int m, int n, int... due) {
        for (int what = 0; what <= 5; what++) {
            String call = "menu(" + rate0 + ", " + rate1 + ", " + m + ", " + n + ", " + what + ")";
            Due.is(call, x.menu(rate0, rate1, m, n, what), due[what]);
        }
    }

    private static void promise17() {
        PaySteer x = new PaySteer(0);
        menuIs(x, 1, 2, 1, 2, 0, 0, 0, 0, 1, 0);
        x.work(1, 10);
        menuIs(x, 1, 2, 1, 2, 1, 2, 1, 2, 1, 16);
        x.work(1, 25);
        menuIs(x, 1, 20, 1, 2, 1, 1, 0, 0, 0, 24);
        // 24 of one, or 5 of each of 20: 100 against 24.
        menuIs(x, 1, 20, 19, 20, 1, 20, 1, 20, 1, 100);
        // 19 times 24 against 20 times 5.
        menuIs(x, 1, 20, 1, 20, 1, 1, 0, 0, 0, 456);
        x.work(1, 3);
        menuIs(x, 1, 2, 1, 2, 1, 1, 0, 0, 0, 2);
        x.work(1, 1);
        menuIs(x, 1, 2, 1, 2, 0, 0, 0, 0, 1, 0);
        x.work(1, 0);
        x.work(9, 9999);
        menuIs(x, 19, 20, 10, 20, 9, 1620, 9, 1620, 1, 20 * (9999 - 1620));
        x.work(9, 1539);
        menuIs(x, 19, 20, 10, 20, 0, 0, 0, 0, 1, 0);
        x.work(9, 1540);
        menuIs(x, 19, 20, 10, 20, 9, 1539, 0, 0, 0, 10);
        PaySteer two = new PaySteer(0);
        two.work(3, 60);
        two.work(2, 40);
        // Rates 3 and 5: 60 - 27 - 2 q q, and 40 - 20 or 0.
        menuIs(two, 3, 5, 1, 2, 3, 35, 2, 20, 0, 45);
    }

    private static void promise17Refused() {
        PaySteer x = new PaySteer(0);
        int[] noWhats = {-1, 6, MIN, MAX};
        for (int no : noWhats) {
            Due.is("what " + no, x.menu(1, 2, 1, 2, no), -1);
            Due.is("what " + no + ", bad rates", x.menu(0, 2, 1, 2, no), -1);
        }
        int[][] bad = {{0, 2, 1, 2}, {2, 2, 1, 2}, {3, 2, 1, 2}, {1, 21, 1, 2}, {20, 21, 1, 2}, {-1, 2, 1, 2},
            {MIN, 2, 1, 2}, {1, MAX, 1, 2}, {1, 2, 0, 2}, {1, 2, 2, 2}, {1, 2, -1, 2}, {1, 2, 1, 21}, {1, 2, 1, 1},
            {1, 2, 0, 1}, {1, 2, 20, 20}, {1, 2, MIN, MAX}, {1, 2, 3, 2}};
        for (int[] b : bad) {
            Due.is("menu " + b[0] + " " + b[1] + " " + b[2] + " " + b[3], x.menu(b[0], b[1], b[2], b[3], 0), -2);
        }
        Due.is("menu(19, 20, 19, 20, 5)", x.menu(19, 20, 19, 20, 5), 0);
        Due.is("menu(1, 2, 1, 20, 5)", x.menu(1, 2, 1, 20, 5), 0);
    }

    private static void promise18() {
        PaySteer x = new PaySteer(0);
        Due.is("nothing for nothing", x.may(1, 2, 0, 0, 0, 0), 1);
        Due.is("all as it must be", x.may(3, 5, 3, 35, 2, 20), 1);
        Due.is("kind 0 would rather have the other's", x.may(3, 5, 3, 34, 2, 20), 0);
        Due.is("kind 1 is alike", x.may(3, 5, 3, 45, 2, 20), 1);
        Due.is("kind 1 would rather have the other's", x.may(3, 5, 3, 46, 2, 20), 0);
        Due.is("kind 1 would rather have nothing", x.may(3, 5, 3, 35, 2, 19), 0);
        Due.is("kind 0 would rather have nothing", x.may(3, 5, 3, 26, 0, 0), 0);
        Due.is("kind 0 is alike", x.may(3, 5, 3, 27, 0, 0), 1);
        Due.is("more work for kind 1", x.may(3, 5, 2, 12, 3, 45), 0);
        Due.is("the same for both", x.may(19, 20, 9, 9999, 9, 9999), 1);
        Due.is("not the same pay", x.may(19, 20, 9, 9998, 9, 9999), 0);
        int[][] bad = {{0, 2, 0, 0, 0, 0}, {2, 2, 0, 0, 0, 0}, {1, 21, 0, 0, 0, 0}, {MIN, MAX, 0, 0, 0, 0},
            {1, 2, -1, 0, 0, 0}, {1, 2, 10, 0, 0, 0}, {1, 2, 0, -1, 0, 0}, {1, 2, 0, 10000, 0, 0},
            {1, 2, 0, 0, -1, 0}, {1, 2, 0, 0, 10, 0}, {1, 2, 0, 0, 0, -1}, {1, 2, 0, 0, 0, 10000},
            {1, 2, MAX, 0, 0, 0}, {1, 2, 0, MIN, 0, 0}};
        for (int[] b : bad) {
            Due.is("may " + b[0] + " " + b[1] + " " + b[2] + " " + b[3] + " " + b[4] + " " + b[5],
                    x.may(b[0], b[1], b[2], b[3], b[4], b[5]), -2);
        }
    }

    private static void promise19() {
        PaySteer x = new PaySteer(0);
        Due.is("at first 0, 3, 3, 9, 10", x.promise(1, 0), 30);
        int[][] bad = {{-1, 0, 0, 0, 0}, {13, 0, 0, 0, 0}, {0, -1, 0, 0, 0}, {0, 13, 0, 0, 0}, {0, 0, -1, 0, 0},
            {0, 0, 13, 0, 0}, {0, 0, 0, -1, 0}, {0, 0, 0, 13, 0}, {0, 0, 0, 0, -1}, {0, 0, 0, 0, 100},
            {MIN, 0, 0, 0, 0}, {0, 0, 0, 0, MAX}};
        for (int[] b : bad) {
            Due.is("terms " + b[0] + " " + b[1] + " " + b[2] + " " + b[3] + " " + b[4],
                    x.terms(b[0], b[1], b[2], b[3], b[4]), -2);
            Due.is("nothing changed", x.promise(1, 0), 30);
        }
        Due.is("all greatest", x.terms(12, 12, 12, 12, 99), 0);
        Due.is("cannot be kept any more", x.promise(1, 0), NO);
        Due.is("all least", x.terms(0, 0, 0, 0, 0), 0);
        Due.is("can be kept again", x.promise(1, 0), 0);
        x.terms(0, 1, 2, 3, 99);
        Due.is("act 0", x.promise(1, 0), 198);
        x.terms(1, 0, 2, 3, 99);
        Due.is("act 1", x.promise(1, 0), 297);
        Due.is("another object", new PaySteer(0).promise(1, 0), 30);
    }

    private static void promise20() {
        PaySteer x = new PaySteer(0);
        for (int w = 0; w <= 12; w++) {
            Due.is("promise(1, " + w + ")", x.promise(1, w), w <= 6 ? 30 - 12 * w : NO);
        }
        // Just u 6 and d 0 make act 1 willing: 9 u - 3 d is 36 with a (u - d) of 6. It has 6 * 9 / 12 - 3 = 1.5.
        Due.is("two terms, nothing promised", x.promise(2, 0), 720);
        // Costs nothing and brings 99 of 12 in each of 6 terms.
        x.terms(0, 0, 12, 12, 99);
        Due.is("six terms", x.promise(6, 0), 6L * 99 * 2985984);
        Due.is("six terms, 12 promised", x.promise(6, 12), 6L * 99 * 2985984 - 12L * 2985984);
        Due.is("five terms", x.promise(5, 0), 5L * 99 * 248832);
        Due.is("one term, 12 promised", x.promise(1, 12), NO);
        Due.is("two terms, 12 promised", x.promise(2, 12), (2L * 99 - 12) * 144);
        int[] none = {0, -1, 7, MIN, MAX};
        for (int no : none) {
            Due.is("t " + no, x.promise(no, 0), NO);
        }
        int[] noPromises = {-1, 13, MIN, MAX};
        for (int no : noPromises) {
            Due.is("w " + no, x.promise(1, no), NO);
        }
        // What is done costs 6, so that a 6 ahead is needed for nothing.
        x.terms(6, 6, 6, 6, 0);
        Due.is("just 0", x.promise(1, 0), -72);
        Due.is("no more", x.promise(1, 1), NO);
        Due.is("nor later", x.promise(2, 0), -2 * 72 * 12);
        Due.is("what cannot be kept", x.promise(2, 1), NO);
    }

    private static void firstIs(PaySteer x, int t, int w, int... due) {
        for (int what = 0; what <= 3; what++) {
            Due.is("first(" + t + ", " + w + ", " + what + ")", x.first(t, w, what), due[what]);
        }
    }

    private static void promise21() {
        PaySteer x = new PaySteer(0);
        firstIs(x, 1, 0, 0, 0, 0, 0);
        firstIs(x, 1, 6, 0, 6, 0, 0);
        Due.is("cannot be kept", x.first(1, 7, 0), -1);
        firstIs(x, 3, 4, 1, 0, 9, 1);
        int[] none = {-1, 4, MIN, MAX};
        for (int no : none) {
            Due.is("what " + no, x.first(1, 0, no), -1);
        }
        int[] noTerms = {0, 7, -1, MIN, MAX};
        for (int no : noTerms) {
            Due.is("t " + no, x.first(no, 0, 0), -1);
        }
        int[] noPromises = {-1, 13, MIN, MAX};
        for (int no : noPromises) {
            Due.is("w " + no, x.first(6, no, 0), -1);
        }
        // Both acts are alike: the least act; 1 is had at once or later, the least a.
        x.terms(0, 0, 6, 6, 0);
        firstIs(x, 2, 1, 0, 0, 0, 2);
        firstIs(x, 2, 0, 0, 0, 0, 0);
        firstIs(x, 2, 12, 0, 6, 6, 6);
        firstIs(x, 2, 11, 0, 5, 6, 6);
        x.terms(0, 0, 0, 12, 1);
        firstIs(x, 1, 0, 1, 0, 0, 0);
    }

    private static void promise22() {
        PaySteer x = new PaySteer(0);
        Due.is("start(1)", x.start(1), 0);
        // Act 1 must cost less than what is ahead: the least of several with the greatest sum.
        x.terms(0, 12, 0, 12, 99);
        Due.is("start(2)", x.start(2), 0);
        x.terms(12, 12, 6, 6, 0);
        for (int t = 1; t <= 6; t++) {
            Due.is("nothing can be kept, " + t, x.start(t), -1);
        }
        int[] none = {0, -1, 7, MIN, MAX};
        for (int no : none) {
            Due.is("t " + no, x.start(no), -1);
        }
        // Act 0 is free and makes no good sight; act 1 costs 1, and a sure good sight is worth 99.
        x.terms(0, 1, 0, 12, 99);
        Due.is("one term", x.promise(1, 0), 0);
        // With u 1, d 0 act 1 has just 0.
        Due.is("two terms, 0", x.promise(2, 0), (99 * 12 - 12) * 12);
        Due.is("start(2) of act 1", x.start(2), 0);
        // Act 1 needs u - d of 6 or more, and whole worth: u 8, d 0, which leaves the hired 3.
        x.terms(0, 3, 3, 9, 99);
        Due.is("start(2) without act 1", x.start(2), 0);
        Due.is("start(3) leaves the hired something", x.start(3), 3);
        Due.is("its sum, 117.75 times 1728", x.promise(3, 3), 203472);
        firstIs(x, 3, 3, 1, 0, 8, 0);
    }
}
