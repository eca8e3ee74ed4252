/** Promises 44 to 48: two tasks, a ratchet, counts, by runs worked out by hand. */
public final class TasksTest {
    private static final int MIN = Integer.MIN_VALUE;
    private static final int MAX = Integer.MAX_VALUE;

    private TasksTest() {
    }

    public static void main(String[] args) {
        promise44();
        promise45();
        promise46();
        promise47();
        promise48();
        Due.end("TasksTest");
    }

    private static void promise44() {
        PaySteer x = new PaySteer(0);
        Due.is("all 0 at first: no tie", x.doesBoth(40, 40), 88);
        Due.is("all 0 at first: no worth", x.rates(0), 0);
        Due.is("all greatest", x.tasks(9, 99, 99), 0);
        Due.is("a tie of 9", x.doesBoth(40, 40), 8);
        Due.is("all least", x.tasks(0, 0, 0), 0);
        Due.is("x worth 20", x.tasks(0, 20, 0), 0);
        int[][] bad = {{-1, 0, 0}, {10, 0, 0}, {0, -1, 0}, {0, 100, 0}, {0, 0, -1}, {0, 0, 100}, {MIN, 0, 0},
            {0, MAX, 0}, {0, 0, MIN}};
        for (int[] b : bad) {
            Due.is("tasks " + b[0] + " " + b[1] + " " + b[2], x.tasks(b[0], b[1], b[2]), -2);
        }
        Due.is("nothing changed", x.rates(0), 1000);
    }

    private static void promise45() {
        PaySteer x = new PaySteer(0);
        Due.is("doesBoth(10, 0)", x.doesBoth(10, 0), 50);
        Due.is("the least x of two", x.doesBoth(11, 0), 50);
        Due.is("the least y of two", x.doesBoth(0, 11), 5);
        Due.is("doesBoth(12, 2)", x.doesBoth(12, 2), 61);
        Due.is("doesBoth(1, 1)", x.doesBoth(1, 1), 0);
        Due.is("doesBoth(15, 17)", x.doesBoth(15, 17), 78);
        Due.is("doesBoth(16, 40)", x.doesBoth(16, 40), 88);
        x.tasks(9, 0, 0);
        Due.is("either: the least x", x.doesBoth(10, 10), 5);
        Due.is("x brings more", x.doesBoth(11, 10), 50);
        x.tasks(1, 0, 0);
        // 10 x - x x + 10 y - y y - x y: 33 with 3, 3 and with 3, 4 and with 4, 3.
        Due.is("some of both", x.doesBoth(10, 10), 33);
        x.tasks(2, 0, 0);
        // All by x + y, which is 5: the least x.
        Due.is("each split is alike", x.doesBoth(10, 10), 5);
        int[][] bad = {{-1, 0}, {41, 0}, {0, -1}, {0, 41}, {MIN, 0}, {0, MAX}};
        for (int[] b : bad) {
            Due.is("doesBoth " + b[0] + " " + b[1], x.doesBoth(b[0], b[1]), -2);
        }
    }

    private static void promise46() {
        PaySteer x = new PaySteer(0);
        x.tasks(0, 20, 20);
        Due.is("both", x.rates(0), 1010);
        Due.is("just x", x.rates(1), 1000);
        Due.is("just y", x.rates(2), 10);
        x.tasks(0, 20, 14);
        // 14 - r times half of r: 12 with 6 and 8 (8 * 3 = 24 and 6 * 4 = 24).
        Due.is("the least y rate of two", x.rates(2), 6);
        Due.is("both by themselves", x.rates(0), 1006);
        x.tasks(0, 14, 20);
        Due.is("the least x rate of two", x.rates(1), 600);
        Due.is("both by themselves, too", x.rates(0), 610);
        x.tasks(9, 20, 20);
        Due.is("just one of both", x.rates(0), 10);
        x.tasks(9, 22, 20);
        Due.is("the one that is worth more", x.rates(0), 1000);
        x.tasks(0, 99, 99);
        Due.is("all efforts", x.rates(0), 1616);
        x.tasks(0, 1, 1);
        Due.is("nothing is worth it", x.rates(0), 0);
        int[] none = {-1, 3, MIN, MAX};
        for (int no : none) {
            Due.is("seen " + no, x.rates(no), -1);
        }
    }

    private static void ratchetIs(int kind, int rate, int step, int m, int n, int left) {
        PaySteer x = new PaySteer(0);
        String call = "ratchet(" + kind + ", " + rate + ", " + step + ", ";
        Due.is(call + "0)", x.ratchet(kind, rate, step, 0), m);
        Due.is(call + "1)", x.ratchet(kind, rate, step, 1), n);
        Due.is(call + "2)", x.ratchet(kind, rate, step, 2), left);
    }

    private static void promise47() {
        // Staying leaves 25 - m m - 10 step, leaving behind the first year 10 m - m m.
        ratchetIs(0, 10, 0, 0, 5, 25);
        ratchetIs(0, 10, 1, 5, 0, 25);
        ratchetIs(0, 11, 1, 5, 0, 30);
        ratchetIs(0, 0, 0, 0, 0, 0);
        ratchetIs(0, 40, 0, 0, 19, 399);
        ratchetIs(0, 40, 9, 19, 0, 399);
        ratchetIs(1, 10, 0, 0, 2, 12);
        ratchetIs(1, 10, 1, 2, 0, 12);
        ratchetIs(1, 40, 5, 10, 0, 200);
        ratchetIs(0, 1, 0, 0, 0, 0);
        ratchetIs(1, 4, 0, 0, 1, 2);
        PaySteer x = new PaySteer(0);
        int[] none = {-1, 2, MIN, MAX};
        for (int no : none) {
            Due.is("kind " + no, x.ratchet(no, 5, 0, 0), -1);
            Due.is("kind " + no + ", bad rate", x.ratchet(no, 41, 0, 0), -1);
        }
        int[] noWhats = {-1, 3, MIN, MAX};
        for (int no : noWhats) {
            Due.is("what " + no, x.ratchet(0, 5, 0, no), -1);
            Due.is("what " + no + ", bad step", x.ratchet(0, 5, 10, no), -1);
        }
        int[] badRates = {-1, 41, MIN, MAX};
        for (int bad : badRates) {
            Due.is("rate " + bad, x.ratchet(1, bad, 0, 0), -2);
        }
        int[] badSteps = {-1, 10, MIN, MAX};
        for (int bad : badSteps) {
            Due.is("step " + bad, x.ratchet(1, 5, bad, 0), -2);
        }
    }

    private static void countsAre(PaySteer x, int... due) {
        for (int what = 0; what <= 5; what++) {
            Due.is("count(" + what + ")", x.count(what), due[what]);
        }
    }

    private static void promise48() {
        PaySteer x = new PaySteer(2);
        countsAre(x, 0, 4, 0, 0, 0, 0);
        x.act(0);
        x.act(0);
        x.reserve(7);
        TapeTest.read(x, "1");
        TapeTest.read(x, "2");
        TapeTest.read(x, "3");
        x.year(0);
        x.feed(0, 5);
        countsAre(x, 2, 4, 7, 3, 1, 5);
        x.back();
        countsAre(x, 2, 4, 7, 3, 0, 5);
        int[] none = {-1, 6, MIN, MAX};
        for (int no : none) {
            Due.is("count(" + no + ")", x.count(no), -1);
        }
    }
}
